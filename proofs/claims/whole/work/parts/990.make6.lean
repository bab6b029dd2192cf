section Make6
variable {D : va_G} {A : Nat → Prop} {sz : Nat} {Z : State → Prop} {μ : gM} {R : Room} {mc ms : Nat} {PB : State → Prop} {pc : Nat} {L S : List Value} {tys : List (ClassId × FieldType)} {ws : va_W} {ce sl : Nat}
/-- a new object, its fields as they are before its constructor -/
theorem k_new {ci index N : Nat} {C : String} {T : u_T} {fs : List Value} (hA : ∀ q, sz ≤ q → A q) (hd : decode μ.2.1 pc = .ok (.new index, 3)) (hc : classes[ci]? = some (C, T, N)) (hin : ∀ w ∈ u_ws C T N, w ∈ tbG) (ty0 : Nat → FieldType) (hty : ∀ k, k < N → parseFieldDescriptor (T k).2.2.1 = some (ty0 k)) (h1 : Cond.classLink μ.1.cls index C ∈ tbG) (h2 : Cond.instantiable C N ∈ tbG) (h3 : Cond.initialized C ∈ tbG) (hfs : ∀ j, j < N → defaultValue (ty0 j) = vp_V fs j) (hcl : ce + 1 ≤ R.cells) (hs : sl + N ≤ R.slots) (k : ∀ q : Nat, KJ D A sz Z μ R mc ms PB (pc + 3) L (.ref q :: S) tys (ws ++ [(q, .inr (ci, fs))]) (ce + 1) (sl + N)) : KJ D A sz Z μ R mc ms PB pc L S tys ws ce sl := by
  intro p l e s m args below meth c H locs ls hB hZ hz hK hP hD hS hL
  exact va_new hB.1 hB.2.1 hB.2.2.2.2.2.1 hin ty0 hty hB.2.2.2.2.1 (hB.2.2.2.2.2.1 _ h1) (hB.2.2.2.2.2.1 _ h2) (hB.2.2.2.2.2.1 _ h3) hK hP hD hS (fun q hq => hA q (by omega)) hc hfs hcl hs hd (fun q H1 hP1 hD1 hS1 => k q p l e s m args below meth c H1 locs ls hB hZ hz hK hP1 hD1 hS1 hL)
theorem k_dup {v : Value} (hv : v.category = 1) (hd : decode μ.2.1 pc = .ok (.dup, 1)) (k : KJ D A sz Z μ R mc ms PB (pc + 1) L (v :: v :: S) tys ws ce sl) : KJ D A sz Z μ R mc ms PB pc L (v :: S) tys ws ce sl :=
  fun p l e s m args below meth c H locs ls hB hZ hz hK hP hD hS hL => lv_dup hB.1 hB.2.1 hd hv (k p l e s m args below meth c H locs ls hB hZ hz hK hP hD hS hL)
end Make6
