section Make7
/-- the nest's links that the constructors want, and the row of States -/
abbrev gNl : Type := List (String × Nat × MethodName)
def Zn (nl : gNl) (U : State) : Prop := va_AO RX8 U ∧ ∀ q ∈ nl, va_Nw (.methodLinkNest q.1 q.2.1 q.2.2 "GiltCockcrow") U
theorem Zn.warm {nl : gNl} {s U : State} (hW : s.WarmedH U.vm) (h : Zn nl s) : Zn nl U := ⟨va_AO.moved hW.alike h.1, fun q hq => va_Nw.warmM hW (h.2 q hq)⟩
theorem Zn.same {nl : gNl} {s U : State} (hv : s.vm = U.vm) (h : Zn nl s) : Zn nl U := ⟨va_AO.moved (by rw [hv]; exact Vm.Alike.refl _) h.1, fun q hq => va_Nw.same rfl hv (h.2 q hq)⟩
theorem Zn.sub {nl nl' : gNl} {s : State} (hs : ∀ q ∈ nl', q ∈ nl) (h : Zn nl s) : Zn nl' s := ⟨h.1, fun q hq => h.2 q (hs q hq)⟩
variable {D : va_G} {τ : gT} {A : Nat → Prop} {sz : Nat} {nl : gNl} {μ : gM} {R : Room} {mc ms : Nat} {PB : State → Prop} {pc : Nat} {L S : List Value} {ws : va_W} {ce sl : Nat}
theorem ct_blind {nl : gNl} (h0 sz : Nat) (e0 : va_E) : FrameBlind (va_Pc [.ref h0] (fun U => U.heap.size = sz ∧ va_P D classes [(h0, e0)] U.heap ∧ va_K D classes (tYs τ) U ∧ va_D (fun _ => True) [(h0, e0)] ∧ Zn nl U)) := by
  intro a U g mk q
  obtain ⟨q0, q1, q2, q3, q4, q5⟩ := q
  exact ⟨q0, q1, q2, va_K.moved (u := U) (U := U.calling g mk a) (Vm.Alike.refl U.vm) q3, q4, Zn.same (s := U) (U := U.calling g mk a) rfl q5⟩
/-- the world behind a constructor's call: what was there, and the new block -/
theorem ct_join {wr w1 : va_W} {q : Nat} {e0 : va_E} {H H1 : Heap} (hP : va_P D classes (wr ++ [(q, e0)]) H) (hD : va_D A (wr ++ [(q, e0)])) (hk : ∀ x : Nat, x < H.size → ¬ va_A [(q, e0)] H.size x → H1[x]? = H[x]?) (hf : ∀ x, va_A [(q, e0)] H.size x → A x) (hP1 : va_P D classes w1 H1) (hD1 : va_D (va_A [(q, e0)] H.size) w1) : va_P D classes (wr ++ w1) H1 ∧ va_D A (wr ++ w1) := by
  have hq : (wr ++ [(q, e0)])[wr.length]? = some (q, e0) := by simp
  have hl : ∀ (k : Nat) (x : Nat × va_E), wr[k]? = some x → (wr ++ [(q, e0)])[k]? = some x := fun k x hx => by
    rw [List.getElem?_append_left (List.getElem?_eq_some_iff.mp hx).1]; exact hx
  have hlt : ∀ (k : Nat) (x : Nat × va_E), wr[k]? = some x → x.1 < H.size ∧ x.1 ≠ q := fun k x hx => by
    refine ⟨(hP k x (hl k x hx)).lt, fun e => ?_⟩
    have := hD.1 k wr.length x (q, e0) (hl k x hx) hq e
    have h2 := (List.getElem?_eq_some_iff.mp hx).1
    omega
  have hno : ∀ (k : Nat) (x : Nat × va_E), wr[k]? = some x → ¬ va_A [(q, e0)] H.size x.1 := fun k x hx h => by
    obtain ⟨h1, h2⟩ := hlt k x hx
    rcases h with ⟨j, e, hj⟩ | h
    · have : (x.1, e) ∈ [(q, e0)] := List.mem_of_getElem? hj
      simp at this
      exact h2 this.1
    · omega
  refine ⟨va_P.app (fun k x hx => (hP k x (hl k x hx)).kept (hk x.1 (hlt k x hx).1 (hno k x hx))) hP1, va_D.app ⟨fun i j a b hi hj => hD.1 i j a b (hl i a hi) (hl j b hj), fun k x hx => hD.2 k x (hl k x hx)⟩ (hD1.weaken (fun k x _ h => hf _ h)) (fun i j a b hi hj e => ?_)⟩
  exact hno i a hi (e ▸ hD1.2 j b hj)
theorem ct_free {wr : va_W} {q : Nat} {e0 : va_E} {H0 H : Heap} {locs : List Loc} (hD : va_D A (wr ++ [(q, e0)])) (hS : va_S A H0 H locs) (hA : ∀ x, H0.size ≤ x → A x) : ∀ x, va_A [(q, e0)] H.size x → A x := by
  intro x hx
  rcases hx with ⟨j, e, hj⟩ | h
  · have : (x, e) ∈ [(q, e0)] := List.mem_of_getElem? hj
    simp at this
    have h2 := hD.2 wr.length (q, e0) (by simp)
    rw [this.1]; exact h2
  · exact hA x (Nat.le_trans hS.1 h)
/-- a nest mate's constructor -/
theorem k_callN {μ' : gM} {rm : Room} {mc' ms' ci q c0 n idx : Nat} {fs : List Value} {wr : va_W} {nl' : gNl} (hA : ∀ q, sz ≤ q → A q) (hct : Ct D τ (Zn nl') μ' rm mc' ms' ci fs c0 n) (hd : decode μ.2.1 pc = .ok (.invokespecial idx, 3)) (hl : (μ.1.cls, idx, μ'.1) ∈ nl) (hsub : ∀ q ∈ nl', q ∈ nl) (hcode : Cond.code μ'.1 μ'.2.1 μ'.2.2.1 none ∈ tbG) (hret : μ'.2.2.2.1 = none) (hini : Cond.initialized μ'.1.cls ∈ tbG) (hinst : Cond.instanceMethod μ'.1 ∈ tbG) (hnm : μ'.1.name = "<init>") (hPa : okP μ' 0) (hrc : rm.cells = mc') (hrs : rm.slots = ms') (hR : rm.frames + 1 ≤ R.frames ∧ 8 + (μ'.2.2.1 + 11) + rm.locals ≤ R.locals) (hcat : (S.map fun v => v.category).sum ≤ 8) (hc : ce + mc' ≤ R.cells) (hs : sl + ms' ≤ R.slots)
    (k : ∀ u : Nat → Nat, u c0 = q → KJ D A sz (Zn nl) μ R mc ms PB (pc + 3) L S (tYs τ) (wr ++ blk τ u c0 n) (ce + mc') (sl + ms')) : KJ D A sz (Zn nl) μ R mc ms PB pc L (.ref q :: S) (tYs τ) (wr ++ [(q, .inr (ci, fs))]) ce sl := by
  intro p l e s m args below meth c H locs ls hB hZ hz hK hP hD hS hL
  have ok : ∀ w ∈ tbG, w.before args s = true := hB.2.2.2.2.2.1
  have hfr := ct_free (wr := wr) hD hS (fun q hq => hA q (by omega))
  have hw : wsM μ' = Cond.code μ'.1 μ'.2.1 μ'.2.2.1 none :: tbG := by unfold wsM; rw [hret]
  refine va_callv (va_runIN (As := []) (rest := S) (b := q) (n := 0) (bytes := μ'.2.1) (maxL := μ'.2.2.1) (index := idx) ⟨hB.1, hB.2.1, hB.2.2.2.1, hB.2.2.2.2.1, ok⟩ (hct l q H.size) ⟨va_cnB 0 ok (wsM_good (by rw [hret]; exact hcode)) hw hrc hrs (hZ.2 _ hl) (ok _ hini) hPa hR, hnm, ok _ hinst⟩ ⟨ct_blind q H.size _, fun U hU hW => ⟨rfl, by rw [hU], ?_, va_K.moved hW.alike hK, ?_, (hZ.sub hsub).warm hW⟩⟩ rfl rfl hL.1 rfl (lv_room hcat) hd ⟨hc, hs⟩) hS (fun x _ h => hfr x h) hfr (fun _ t H1 locs1 ht hvm _ hB1 hz1 hk1 hS1 => ?_)
  · rw [hU]; exact fun k x hx => by
      have hk0 : k = 0 := by have := (List.getElem?_eq_some_iff.mp hx).1; simp at this; exact this
      subst hk0; simp at hx; subst hx
      exact hP wr.length _ (by simp)
  · refine ⟨fun i j a b hi hj _ => ?_, fun _ _ _ => trivial⟩
    have h1 := (List.getElem?_eq_some_iff.mp hi).1
    have h2 := (List.getElem?_eq_some_iff.mp hj).1
    simp at h1 h2; omega
  · obtain ⟨u, hu, hK1, hP1, hD1⟩ := hB1
    rw [ht] at hP1
    obtain ⟨hP2, hD2⟩ := ct_join hP hD hk1 hfr hP1 hD1
    exact k u hu p l e s m args below meth c H1 locs1 ls hB hZ hz hK hP2 hD2 hS1 hL
/-- a constructor that any class of the package may call -/
theorem k_callI {μ' : gM} {rm : Room} {mc' ms' ci q c0 n idx : Nat} {fs : List Value} {wr : va_W} {nl' : gNl} (hA : ∀ q, sz ≤ q → A q) (hct : Ct D τ (Zn nl') μ' rm mc' ms' ci fs c0 n) (hd : decode μ.2.1 pc = .ok (.invokespecial idx, 3)) (hl : Cond.methodLink μ.1.cls idx μ'.1 ∈ tbG) (hsub : ∀ q ∈ nl', q ∈ nl) (hcode : Cond.code μ'.1 μ'.2.1 μ'.2.2.1 none ∈ tbG) (hret : μ'.2.2.2.1 = none) (hini : Cond.initialized μ'.1.cls ∈ tbG) (hinst : Cond.instanceMethod μ'.1 ∈ tbG) (hnm : μ'.1.name = "<init>") (hPa : okP μ' 0) (hrc : rm.cells = mc') (hrs : rm.slots = ms') (hR : rm.frames + 1 ≤ R.frames ∧ 8 + (μ'.2.2.1 + 11) + rm.locals ≤ R.locals) (hcat : (S.map fun v => v.category).sum ≤ 8) (hc : ce + mc' ≤ R.cells) (hs : sl + ms' ≤ R.slots)
    (k : ∀ u : Nat → Nat, u c0 = q → KJ D A sz (Zn nl) μ R mc ms PB (pc + 3) L S (tYs τ) (wr ++ blk τ u c0 n) (ce + mc') (sl + ms')) : KJ D A sz (Zn nl) μ R mc ms PB pc L (.ref q :: S) (tYs τ) (wr ++ [(q, .inr (ci, fs))]) ce sl := by
  intro p l e s m args below meth c H locs ls hB hZ hz hK hP hD hS hL
  have ok : ∀ w ∈ tbG, w.before args s = true := hB.2.2.2.2.2.1
  have hfr := ct_free (wr := wr) hD hS (fun q hq => hA q (by omega))
  have hw : wsM μ' = Cond.code μ'.1 μ'.2.1 μ'.2.2.1 none :: tbG := by unfold wsM; rw [hret]
  refine va_callv (va_runI (As := []) (rest := S) (b := q) (n := 0) (bytes := μ'.2.1) (maxL := μ'.2.2.1) (index := idx) ⟨hB.1, hB.2.1, hB.2.2.2.1, hB.2.2.2.2.1, ok⟩ (hct l q H.size) ⟨callB_of 0 ok (wsM_good (by rw [hret]; exact hcode)) hw hrc hrs (ok _ hini) (ok _ hl) hPa hR, hnm, ok _ hinst⟩ ⟨ct_blind q H.size _, fun U hU hW => ⟨rfl, by rw [hU], ?_, va_K.moved hW.alike hK, ?_, (hZ.sub hsub).warm hW⟩⟩ rfl rfl hL.1 rfl (lv_room hcat) hd ⟨hc, hs⟩) hS (fun x _ h => hfr x h) hfr (fun _ t H1 locs1 ht hvm _ hB1 hz1 hk1 hS1 => ?_)
  · rw [hU]; exact fun k x hx => by
      have hk0 : k = 0 := by have := (List.getElem?_eq_some_iff.mp hx).1; simp at this; exact this
      subst hk0; simp at hx; subst hx
      exact hP wr.length _ (by simp)
  · refine ⟨fun i j a b hi hj _ => ?_, fun _ _ _ => trivial⟩
    have h1 := (List.getElem?_eq_some_iff.mp hi).1
    have h2 := (List.getElem?_eq_some_iff.mp hj).1
    simp at h1 h2; omega
  · obtain ⟨u, hu, hK1, hP1, hD1⟩ := hB1
    rw [ht] at hP1
    obtain ⟨hP2, hD2⟩ := ct_join hP hD hk1 hfr hP1 hD1
    exact k u hu p l e s m args below meth c H1 locs1 ls hB hZ hz hK hP2 hD2 hS1 hL
/-! locals, jumps, reads -/
def κid : gK := ((fun _ => 0, fun _ _ => 0), id, 0, 0, 0)
theorem rv_id (v : Value) : rv κid v = v := by cases v <;> rfl
theorem mkL_iff {ls : Array Slot} {n : Nat} {L : List Value} : mkL ls n L ↔ LR κid ls n L := by
  unfold mkL LR
  simp only [rv_id]
theorem k_iload_n {tys : List (ClassId × FieldType)} {Z : State → Prop} {k0 : Fin 4} {i : Nat} {x : Int32} (hd : decode μ.2.1 pc = .ok (.iload_n k0, 1)) (hi : (k0 : Nat) = i) (hl : L[i]? = some (.int x)) (k : KJ D A sz Z μ R mc ms PB (pc + 1) L (.int x :: S) tys ws ce sl) : KJ D A sz Z μ R mc ms PB pc L S tys ws ce sl :=
  fun p l e s m args below meth c H locs ls hB hZ hz hK hP hD hS hL => lv_iload_n hB.1 hB.2.1 hd hi (hL.2.2 i _ hl (by simp)) (k p l e s m args below meth c H locs ls hB hZ hz hK hP hD hS hL)
theorem k_istore_n {tys : List (ClassId × FieldType)} {Z : State → Prop} {k0 : Fin 4} {i : Nat} {x : Int32} (hd : decode μ.2.1 pc = .ok (.istore_n k0, 1)) (hi : (k0 : Nat) = i) (hn : i < μ.2.2.1) (ho : okst L i = true) {L' : List Value} (hl : L.set i (.int x) = L') (k : KJ D A sz Z μ R mc ms PB (pc + 1) L' S tys ws ce sl) : KJ D A sz Z μ R mc ms PB pc L (.int x :: S) tys ws ce sl :=
  fun p l e s m args below meth c H locs ls hB hZ hz hK hP hD hS hL => lv_istore_n hB.1 hB.2.1 hd hi (mkL_iff.mp hL).has hn rfl (fun ls h => k p l e s m args below meth c H locs ls hB hZ hz hK hP hD hS (mkL_iff.mpr (hl ▸ LR.set1 (w := .int x) ho h)))
theorem k_iinc {tys : List (ClassId × FieldType)} {Z : State → Prop} {i : Nat} {n : Int} {x v : Int32} (hd : decode μ.2.1 pc = .ok (.iinc i n, 3)) (hx : L[i]? = some (.int x)) (hv : x + Int32.ofInt n = v) (hn : i < μ.2.2.1) (ho : okst L i = true) {L' : List Value} (hl : L.set i (.int v) = L') (k : KJ D A sz Z μ R mc ms PB (pc + 3) L' S tys ws ce sl) : KJ D A sz Z μ R mc ms PB pc L S tys ws ce sl := by
  intro p l e s m args below meth c H locs ls hB hZ hz hK hP hD hS hL
  obtain ⟨j, hj⟩ := List.getElem?_of_mem (asL_mem.mpr ⟨_, hx, by simp, rfl⟩ : (i, rv κid (.int x)) ∈ asL κid L)
  exact lv_iinc hB.1 hB.2.1 hd (mkL_iff.mp hL).has (k := j) hj hv hn rfl (fun ls h => k p l e s m args below meth c H locs ls hB hZ hz hK hP hD hS (mkL_iff.mpr (hl ▸ LR.set1 (w := .int v) ho h)))
theorem k_icmp_ge {tys : List (ClassId × FieldType)} {Z : State → Prop} {x y : Int32} {off : Int} {tgt : Nat} (hd : decode μ.2.1 pc = .ok (.if_icmp .ge off, 3)) (ht : (pc : Int) + off = (tgt : Int)) (k1 : y ≤ x → KJ D A sz Z μ R mc ms PB tgt L S tys ws ce sl) (k2 : ¬ y ≤ x → KJ D A sz Z μ R mc ms PB (pc + 3) L S tys ws ce sl) : KJ D A sz Z μ R mc ms PB pc L (.int y :: .int x :: S) tys ws ce sl :=
  fun p l e s m args below meth c H locs ls hB hZ hz hK hP hD hS hL => lv_icmp_ge hB.1 hB.2.1 hd ht (fun z => k1 z p l e s m args below meth c H locs ls hB hZ hz hK hP hD hS hL) (fun z => k2 z p l e s m args below meth c H locs ls hB hZ hz hK hP hD hS hL)
theorem k_goto {tys : List (ClassId × FieldType)} {Z : State → Prop} {off : Int} {tgt : Nat} (hd : decode μ.2.1 pc = .ok (.goto off, 3)) (ht : (pc : Int) + off = (tgt : Int)) (k : KJ D A sz Z μ R mc ms PB tgt L S tys ws ce sl) : KJ D A sz Z μ R mc ms PB pc L S tys ws ce sl :=
  fun p l e s m args below meth c H locs ls hB hZ hz hK hP hD hS hL => lv_goto hB.1 hB.2.1 hd ht (k p l e s m args below meth c H locs ls hB hZ hz hK hP hD hS hL)
theorem k_get {tys : List (ClassId × FieldType)} {Z : State → Prop} {a ci k q0 index N : Nat} {C : String} {T : u_T} {fs : List Value} {v : Value} (hd : decode μ.2.1 pc = .ok (.getfield index, 3)) (he : ws[q0]? = some (a, .inr (ci, fs))) (hc : classes[ci]? = some (C, T, N)) (hin : ∀ w ∈ u_ws C T N, w ∈ tbG) (hk : k < N) (hl : Cond.fieldLink μ.1.cls index (T k).1 (T k).2.1 (T k).2.2.1 ∈ tbG) (hv : fs[k]? = some v) (kk : KJ D A sz Z μ R mc ms PB (pc + 3) L (v :: S) tys ws ce sl) : KJ D A sz Z μ R mc ms PB pc L (.ref a :: S) tys ws ce sl := by
  intro p l e s m args below meth c H locs ls hB hZ hz hK hP hD hS hL
  exact va_get hB.1 hB.2.1 hB.2.2.2.2.2.1 hin hB.2.2.2.2.1 hK hP q0 he hc k hk (hB.2.2.2.2.2.1 _ hl) (fun _ h => h) hv hd (kk p l e s m args below meth c H locs ls hB hZ hz hK hP hD hS hL)
/-- a State into its row -/
theorem k_astS {Z : State → Prop} {a v q0 qk n i : Nat} {vs : List Value} {f : Nat → Option Nat} (hd : decode μ.2.1 pc = .ok (.aastore, 1)) (ha : ws[q0]? = some (a, .inl (τ.2.2, n, .inr (.inr (.inr (.inr f)))))) (hv : ws[qk]? = some (v, .inr (8, vs))) (hi : i < n) (hn : n ≤ 3000) {ws' : va_W} (hws : ws.set q0 (a, .inl (τ.2.2, n, .inr (.inr (.inr (.inr (va_up f i (some v))))))) = ws') (k : KJ D A sz Z μ R mc ms PB (pc + 1) L S (tYs τ) ws' ce sl) : KJ D A sz Z μ R mc ms PB pc L (.ref v :: .int (nI i) :: .ref a :: S) (tYs τ) ws ce sl := by
  intro p l e s m args below meth c H locs ls hB hZ hz hK hP hD hS hL
  have hcl : (nI i).toNatClampNeg = i := nI_clamp (by omega)
  refine va_astq hB.1 hB.2.1 hK hP hD hS q0 2 qk 8 (r := (RX8, TX8, 5)) ha rfl hv rfl (i := nI i) (fun h => ?_) hd (fun H1 locs1 hP1 hD1 hS1 => ?_)
  · rcases h with h | h
    · exact nI_pos (by omega) h
    · rw [hcl] at h; omega
  · rw [hcl, hws] at hP1 hD1
    exact k p l e s m args below meth c H1 locs1 ls hB hZ hz hK hP1 hD1 hS1 hL
end Make7
