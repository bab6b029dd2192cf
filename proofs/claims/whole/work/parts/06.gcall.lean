section GCall
variable {κ : gK} {μ : gM} {pc : Nat} {L S : List Value} {M : MM} {Q : Int32 → MM → Prop}
/-- a call's values as the locals of the method that is called -/
def lexp : List Value → List Value
  | [] => []
  | .long x :: vs => .long x :: .null :: lexp vs
  | .double x :: vs => .double x :: .null :: lexp vs
  | v :: vs => v :: lexp vs
theorem lexp_mem (κ : gK) : ∀ (as : List Value) (j i : Nat) (v : Value), (lexp as)[i]? = some v → v ≠ .null → (j + i, rv κ v) ∈ lv_args j (as.map (rv κ)) := by
  intro as
  induction as with
  | nil => intro j i v h; simp [lexp] at h
  | cons w ws ih =>
    intro j i v h hv
    have two : ∀ (x : Value), w = x → x.category = 2 → lexp (w :: ws) = x :: .null :: lexp ws → (j + i, rv κ v) ∈ lv_args j ((w :: ws).map (rv κ)) := by
      intro x hw hx hl
      subst hw
      rw [hl] at h
      simp only [List.map_cons, lv_args, rv_cat, hx, if_true]
      match i, h with
      | 0, h => simp at h; subst h; exact List.mem_cons_self
      | 1, h => simp at h; exact absurd h.symm hv
      | i + 2, h =>
        have := ih (j + 2) i v (by simpa using h) hv
        refine List.mem_cons_of_mem _ ?_
        have e : j + (i + 2) = j + 2 + i := by omega
        rw [e]; exact this
    have one : w.category = 1 → lexp (w :: ws) = w :: lexp ws → (j + i, rv κ v) ∈ lv_args j ((w :: ws).map (rv κ)) := by
      intro hx hl
      rw [hl] at h
      simp only [List.map_cons, lv_args, rv_cat, hx]
      match i, h with
      | 0, h => simp at h; subst h; exact List.mem_cons_self
      | i + 1, h =>
        have := ih (j + 1) i v (by simpa using h) hv
        refine List.mem_cons_of_mem _ ?_
        have e : j + (i + 1) = j + 1 + i := by omega
        rw [e]; simpa using this
    cases w with
    | long x => exact two _ rfl rfl rfl
    | double x => exact two _ rfl rfl rfl
    | _ => exact one rfl rfl
theorem lexp_len (κ : gK) : ∀ as : List Value, (lg_sl (as.map (rv κ))).length = (lexp as).length := by
  intro as
  induction as with
  | nil => rfl
  | cons w ws ih =>
    cases w <;> simp_all [lg_sl, lexp, rv, Value.category]
/-- a method's contract out of the walk of its body -/
theorem g_entry {as : List Value} (k0 : Nat) (hy : plainName μ.1.cls = true) (hlen : (lexp as).length ≤ μ.2.2.1) (hL : lexp as ++ List.replicate k0 .null = L) (k : G κ μ 0 L [] M Q) : Cl κ μ as M Q := by
  intro l
  refine Met.ofW (cc := μ.2.1) (maxL := μ.2.2.1) (ret := μ.2.2.2.1) (ws' := tbG) hy rfl ?_
  intro p e s m args below meth c s₁ B hml hv
  obtain ⟨rfl, hP, hK⟩ := hv
  have hts := atoms_spec (ws := wsM μ) B.pre
  have hl := lv_entry (as.map (rv κ)) (n := μ.2.2.1) (by rw [lexp_len]; exact hlen)
  rw [lg_entry_eq]
  generalize (lg_sl (as.map (rv κ)) ++ List.replicate (μ.2.2.1 - (lg_sl (as.map (rv κ))).length) Slot.unset).toArray = ls at hl ⊢
  refine k p l e s m _ below meth c s.heap [] ls ⟨B.exec, B.bytes, B.returns, hml, findClass_of_methodNamed B.named, fun w hw => hts w (List.mem_cons_of_mem _ hw), B.notSynchronized, hK⟩ hP va_S.rf ⟨hl.1, hl.2.1, fun i v h1 h2 => ?_⟩
  subst hL
  have h3 : (lexp as)[i]? = some v := by
    rcases Nat.lt_or_ge i (lexp as).length with h | h
    · rwa [List.getElem?_append_left h] at h1
    · rw [List.getElem?_append_right h, List.getElem?_replicate] at h1
      split at h1
      · cases h1; exact absurd rfl h2
      · cases h1
  have := lexp_mem κ as 0 i v h3 h2
  rw [Nat.zero_add] at this
  exact hl.2.2 _ this
theorem wsM_good {μ' : gM} (hc : Cond.code μ'.1 μ'.2.1 μ'.2.2.1 μ'.2.2.2.1 ∈ tbG) : GoodIn tbG (wsM μ') := by
  intro w hw
  rcases List.mem_cons.mp hw with rfl | h
  · exact ⟨hc, tbG_good _ hc⟩
  · exact ⟨h, tbG_good _ h⟩
/-- what a call needs of the tables: a word each -/
def okI (own : String) (idx : Nat) (μ' : gM) : Prop := Cond.methodLink own idx μ'.1 ∈ tbG ∧ Cond.code μ'.1 μ'.2.1 μ'.2.2.1 μ'.2.2.2.1 ∈ tbG ∧ Cond.initialized μ'.1.cls ∈ tbG
def okV (own : String) (idx : Nat) (μ' : gM) : Prop := okI own idx μ' ∧ Cond.instanceMethod μ'.1 ∈ tbG ∧ Cond.selects μ'.1.cls μ'.1 μ'.1 ∈ tbG
def okP (μ' : gM) (n : Nat) : Prop := (μ'.1.cls ≠ "java/lang/invoke/MethodHandle" ∧ μ'.1.cls ≠ "java/lang/invoke/VarHandle" ∧ (parseMethodDescriptor μ'.1.desc).map (fun d => d.parameters.length) = some n)
theorem g_blind (κ : gK) (M : MM) (as : List Value) : FrameBlind (va_Pc (as.map (rv κ)) (fun U => wP κ M U.heap ∧ okK κ U U.heap)) := by
  intro a U g mk q
  obtain ⟨q0, q1, q2⟩ := q
  exact ⟨q0, q1, q2.moved (u := U) (U := U.calling g mk a) (Vm.Alike.refl U.vm)⟩
theorem g_room {μ' : gM} {k : Nat} (hlv : μ'.2.2.2.2 + 1 ≤ k) (hml : μ'.2.2.1 ≤ 11) : (rmL μ'.2.2.2.2).frames + 1 ≤ (rmL k).frames ∧ 8 + (μ'.2.2.1 + 11) + (rmL μ'.2.2.2.2).locals ≤ (rmL k).locals := by
  refine ⟨hlv, ?_⟩
  show 8 + (μ'.2.2.1 + 11) + 30 * μ'.2.2.2.2 ≤ 30 * k
  omega
theorem g_cats (κ : gK) {S : List Value} (h : (S.map fun v => v.category).sum ≤ 8) : ((S.map (rv κ)).map fun v => v.category).sum ≤ 8 := by
  rw [List.map_map]; refine Nat.le_trans (Nat.le_of_eq ?_) h; congr 1; apply List.map_congr_left; intro v _; exact rv_cat κ v
/-- behind a call: its answer on the stack (nothing, of a method that gives none) -/
def rst (μ' : gM) (r : Int32) (S : List Value) : List Value := match μ'.2.2.2.1 with
  | none => S
  | some _ => .int r :: S
theorem g_after {μ' : gM} {p : Program} {l : Launch} {e : Env} {s : State} {m : MethodId} {args : Array Value} {below : List Frame} {meth : Method} {c : Code} {H : Heap} {locs : List Loc} {ls : Array Slot} {st0 : List Value} {a : Array Value} (hB : gB κ μ p s m args meth c) (hS : va_S (kA κ) s.heap H locs) (hL : LR κ ls μ.2.2.1 L)
    (hr : va_Run p l e (rmL μ.2.2.2.2) s m args below meth c H locs 0 0 0 0 (F0 m pc ls st0) (S.map (rv κ)) (FQ κ μ' (fun r M' => G κ μ (pc + 3) L (rst μ' r S) M' Q) a) (kA κ)) :
    W p l e (rmL μ.2.2.2.2) s m args below meth c H locs 0 0 (MQ below (FQ κ μ Q) args s 0 0 (kA κ)) (F0 m pc ls st0) := by
  cases hret : μ'.2.2.2.1 with
  | none =>
    simp only [FQ, rst, hret] at hr
    exact va_callv hr hS (fun _ _ h => h) (fun _ h => h) (fun u t H1 locs1 ht _ hw hb _ _ hS1 => hw p l e s m args below meth c H1 locs1 ls hB (ht ▸ hb) hS1 hL)
  | some ty =>
    simp only [FQ, rst, hret] at hr
    exact va_calli hr hS (fun _ _ h => h) (fun _ h => h) (fun r u t H1 locs1 ht _ hw hb _ _ hS1 => hw p l e s m args below meth c H1 locs1 ls hB (ht ▸ hb) hS1 hL)
/-- a call of a method on a cell -/
theorem g_callV {μ' : gM} {c ci idx n : Nat} {as : List Value} {S0 : List Value} {q : vw_C} (hd : decode μ.2.1 pc = .ok (.invokevirtual idx, 3)) (hs : shp c = (0, ci)) (hc : classes[ci]? = some q) (hq : q.1 = μ'.1.cls) (hV : okV μ.1.cls idx μ') (hPa : okP μ' n) (hn : as.length = n) (hlv : μ'.2.2.2.2 + 1 ≤ μ.2.2.2.2) (hml : μ'.2.2.1 ≤ 11) (hcat : (S.map fun v => v.category).sum ≤ 8) (hS0 : S0 = as.reverse ++ .ref c :: S)
    (hk : Cl κ μ' (.ref c :: as) M (fun r M' => G κ μ (pc + 3) L (rst μ' r S) M' Q)) : G κ μ pc L S0 M Q := by
  intro p l e s m args below meth cd H locs ls hB hP hS hL
  subst hS0
  have hw := wrld_at κ M (shp_lt hs (by simp))
  rw [cont_o κ M hs] at hw
  have ok : ∀ w ∈ tbG, w.before args s = true := hB.2.2.2.2.2.1
  have hrecv := va_recv hB.2.2.2.2.2.2.2.1 hP hc hw
  rw [hq] at hrecv
  refine g_after (μ' := μ') hB hS hL (va_runV (As := as.map (rv κ)) (rest := S.map (rv κ)) (b := κ.2.1 c) (C := μ'.1.cls) (index := idx) (bytes := μ'.2.1) (maxL := μ'.2.2.1) (ret := μ'.2.2.2.1) (n := n) ⟨hB.1, hB.2.1, hB.2.2.2.1, hB.2.2.2.2.1, ok⟩ (hk l) ⟨callB_of n ok (wsM_good hV.1.2.1) rfl rfl rfl (ok _ hV.1.2.2) (ok _ hV.1.1) hPa (g_room hlv hml), ok _ hV.2.1, ok _ hV.2.2⟩ ⟨g_blind κ M (.ref c :: as), hrecv, fun U hU hW => ⟨rfl, by rw [hU]; exact hP, ?_⟩⟩ rfl (by simpa using hn) hL.1 (by simp [rv]) (lv_room (g_cats κ hcat)) hd ⟨Nat.le_refl _, Nat.le_refl _⟩)
  rw [hU]
  exact (hB.2.2.2.2.2.2.2.kept (fun a h1 h2 => hS.2.1 a h1 h2)).moved hW.alike
/-- a call of a static method -/
theorem g_callS {μ' : gM} {idx n : Nat} {as : List Value} {S0 : List Value} (hd : decode μ.2.1 pc = .ok (.invokestatic idx, 3)) (hI : okI μ.1.cls idx μ') (hst : Cond.static μ'.1 ∈ tbG) (hPa : okP μ' n) (hn : as.length = n) (hlv : μ'.2.2.2.2 + 1 ≤ μ.2.2.2.2) (hml : μ'.2.2.1 ≤ 11) (hcat : (S.map fun v => v.category).sum ≤ 8) (hS0 : S0 = as.reverse ++ S)
    (hk : Cl κ μ' as M (fun r M' => G κ μ (pc + 3) L (rst μ' r S) M' Q)) : G κ μ pc L S0 M Q := by
  intro p l e s m args below meth cd H locs ls hB hP hS hL
  subst hS0
  have ok : ∀ w ∈ tbG, w.before args s = true := hB.2.2.2.2.2.1
  refine g_after (μ' := μ') hB hS hL (va_runS (As := as.map (rv κ)) (rest := S.map (rv κ)) (index := idx) (bytes := μ'.2.1) (maxL := μ'.2.2.1) (ret := μ'.2.2.2.1) (n := n) ⟨hB.1, hB.2.1, hB.2.2.2.1, hB.2.2.2.2.1, ok⟩ (hk l) ⟨callB_of n ok (wsM_good hI.2.1) rfl rfl rfl (ok _ hI.2.2) (ok _ hI.1) hPa (g_room hlv hml), ok _ hst⟩ ⟨g_blind κ M as, fun U hU hW => ⟨rfl, by rw [hU]; exact hP, ?_⟩⟩ rfl (by simpa using hn) hL.1 (by simp) (lv_room (g_cats κ hcat)) hd ⟨Nat.le_refl _, Nat.le_refl _⟩)
  rw [hU]
  exact (hB.2.2.2.2.2.2.2.kept (fun a h1 h2 => hS.2.1 a h1 h2)).moved hW.alike
theorem FQ.mono {Q' : Int32 → MM → Prop} {a : Array Value} {st t : State} {o : Outcome} (h : FQ κ μ Q a st o t) (hQ : ∀ r M', Q r M' → Q' r M') : FQ κ μ Q' a st o t := by
  cases hret : μ.2.2.2.1 with
  | none =>
    simp only [FQ, hret] at h ⊢
    obtain ⟨⟨u, a1, a2, a3⟩, a4⟩ := h
    exact ⟨⟨u, a1, hQ _ _ a2, a3⟩, a4⟩
  | some ty =>
    simp only [FQ, hret] at h ⊢
    obtain ⟨⟨r, u, a1, a2, a3⟩, a4⟩ := h
    exact ⟨⟨r, u, a1, hQ _ _ a2, a3⟩, a4⟩
theorem Cl.mono {μ : gM} {as : List Value} {M : MM} {Q Q' : Int32 → MM → Prop} (h : Cl κ μ as M Q) (hQ : ∀ r M', Q r M' → Q' r M') : Cl κ μ as M Q' := fun l =>
  MetFree.mono (h l) (fun _ _ h => h) (fun _ _ _ _ _ _ => trivial) (fun a st o t _ hq => ⟨hq.1.mono hQ, hq.2⟩)
theorem G.mono {Q' : Int32 → MM → Prop} (h : G κ μ pc L S M Q) (hQ : ∀ r M', Q r M' → Q' r M') : G κ μ pc L S M Q' := by
  intro p l e s m args below meth c H locs ls hB hP hS hL T hT X
  obtain ⟨t, a, o, b1, b2, b3, b4⟩ := h p l e s m args below meth c H locs ls hB hP hS hL T hT X
  exact ⟨t, a, o, b1, b2, b3.mono hQ, b4⟩
end GCall
