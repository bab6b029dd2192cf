section Law1
/-- what stands at every place of the law behind its start -/
def lB (κ : gK) (N : Nat) (xs : Nat → Int32) (p : Program) (s : State) (m : MethodId) (args : Array Value) (meth : Method) (c : Code) : Prop :=
  p.tables.exec = Jvm.exec ∧ c.code = code ∧ meth.sig.returnType = ret ∧ c.maxLocals = 4 ∧ s.vm.findClass RL = some m.cls ∧ (∀ w ∈ tbG, w.before args s = true) ∧ meth.locks = false ∧ okK κ s s.heap ∧ va_X (κ.2.1 998) N xs s s.heap ∧ κ.2.1 998 < s.heap.size ∧ (∀ q, kA κ q → s.heap.size ≤ q) ∧ args = #[.ref (κ.2.1 998)]
def lawSl : Nat := 14 + 4189 + 32 + 3475
/-- FROM HERE the law comes to its end with 1; the script is the cell 998 -/
def GL (κ : gK) (N : Nat) (xs : Nat → Int32) (pc : Nat) (L S : List Value) (M : MM) : Prop :=
  ∀ (p : Program) (l : Launch) (e : Env) (s : State) (m : MethodId) (args : Array Value) (below : List Frame) (meth : Method) (c : Code) (H : Heap) (locs : List Loc) (ls : Array Slot), lB κ N xs p s m args meth c → wP κ M H → va_S (fun q : Nat => s.heap.size ≤ q) s.heap H locs → LR κ ls 4 L →
    W p l e room_1 s m args below meth c H locs 135 lawSl (lw_Z below args s) (F0 m pc ls (S.map (rv κ)))
variable {κ : gK} {N : Nat} {xs : Nat → Int32} {pc : Nat} {L S : List Value} {M : MM}
theorem l_aload_n {k0 : Fin 4} {i a : Nat} (hd : decode code pc = .ok (.aload_n k0, 1)) (hi : (k0 : Nat) = i) (hl : L[i]? = some (.ref a)) (k : GL κ N xs (pc + 1) L (.ref a :: S) M) : GL κ N xs pc L S M :=
  fun p l e s m args below meth c H locs ls hB hP hS hL => lv_aload_n hB.1 hB.2.1 hd hi (hL.2.2 i _ hl (by simp)) (k p l e s m args below meth c H locs ls hB hP hS hL)
theorem l_iload_n {k0 : Fin 4} {i : Nat} {v : Int32} (hd : decode code pc = .ok (.iload_n k0, 1)) (hi : (k0 : Nat) = i) (hl : L[i]? = some (.int v)) (k : GL κ N xs (pc + 1) L (.int v :: S) M) : GL κ N xs pc L S M :=
  fun p l e s m args below meth c H locs ls hB hP hS hL => lv_iload_n hB.1 hB.2.1 hd hi (hL.2.2 i _ hl (by simp)) (k p l e s m args below meth c H locs ls hB hP hS hL)
theorem l_iconst {n : Int} {v : Int32} (hd : decode code pc = .ok (.iconst n, 1)) (hv : Int32.ofInt n = v) (k : GL κ N xs (pc + 1) L (.int v :: S) M) : GL κ N xs pc L S M :=
  fun p l e s m args below meth c H locs ls hB hP hS hL => lv_iconst hB.1 hB.2.1 hd hv (k p l e s m args below meth c H locs ls hB hP hS hL)
theorem l_bipush {n : Int} {v : Int32} (hd : decode code pc = .ok (.bipush n, 2)) (hv : (Int8.ofInt n).toInt32 = v) (k : GL κ N xs (pc + 2) L (.int v :: S) M) : GL κ N xs pc L S M :=
  fun p l e s m args below meth c H locs ls hB hP hS hL => lv_bipush hB.1 hB.2.1 hd hv (k p l e s m args below meth c H locs ls hB hP hS hL)
theorem l_iadd {v w : Int32} (hd : decode code pc = .ok (.iadd, 1)) (k : GL κ N xs (pc + 1) L (.int (v + w) :: S) M) : GL κ N xs pc L (.int w :: .int v :: S) M :=
  fun p l e s m args below meth c H locs ls hB hP hS hL => lv_iadd hB.1 hB.2.1 hd (k p l e s m args below meth c H locs ls hB hP hS hL)
theorem l_isub {v w : Int32} (hd : decode code pc = .ok (.isub, 1)) (k : GL κ N xs (pc + 1) L (.int (v - w) :: S) M) : GL κ N xs pc L (.int w :: .int v :: S) M :=
  fun p l e s m args below meth c H locs ls hB hP hS hL => lv_isub hB.1 hB.2.1 hd (k p l e s m args below meth c H locs ls hB hP hS hL)
theorem l_iand {v w : Int32} (hd : decode code pc = .ok (.iand, 1)) (k : GL κ N xs (pc + 1) L (.int (v &&& w) :: S) M) : GL κ N xs pc L (.int w :: .int v :: S) M :=
  fun p l e s m args below meth c H locs ls hB hP hS hL => lv_iand hB.1 hB.2.1 hd (k p l e s m args below meth c H locs ls hB hP hS hL)
theorem l_goto {off : Int} {tgt : Nat} (hd : decode code pc = .ok (.goto off, 3)) (ht : (pc : Int) + off = (tgt : Int)) (k : GL κ N xs tgt L S M) : GL κ N xs pc L S M :=
  fun p l e s m args below meth c H locs ls hB hP hS hL => lv_goto hB.1 hB.2.1 hd ht (k p l e s m args below meth c H locs ls hB hP hS hL)
theorem l_icmp_eq {v w : Int32} {off : Int} {tgt : Nat} (hd : decode code pc = .ok (.if_icmp .eq off, 3)) (ht : (pc : Int) + off = (tgt : Int)) (k1 : v = w → GL κ N xs tgt L S M) (k2 : ¬ v = w → GL κ N xs (pc + 3) L S M) : GL κ N xs pc L (.int w :: .int v :: S) M :=
  fun p l e s m args below meth c H locs ls hB hP hS hL => lv_icmp_eq hB.1 hB.2.1 hd ht (fun z => k1 z p l e s m args below meth c H locs ls hB hP hS hL) (fun z => k2 z p l e s m args below meth c H locs ls hB hP hS hL)
theorem l_icmp_gt {v w : Int32} {off : Int} {tgt : Nat} (hd : decode code pc = .ok (.if_icmp .gt off, 3)) (ht : (pc : Int) + off = (tgt : Int)) (k1 : w < v → GL κ N xs tgt L S M) (k2 : ¬ w < v → GL κ N xs (pc + 3) L S M) : GL κ N xs pc L (.int w :: .int v :: S) M :=
  fun p l e s m args below meth c H locs ls hB hP hS hL => lv_icmp_gt hB.1 hB.2.1 hd ht (fun z => k1 z p l e s m args below meth c H locs ls hB hP hS hL) (fun z => k2 z p l e s m args below meth c H locs ls hB hP hS hL)
theorem l_if_eq {v : Int32} {off : Int} {tgt : Nat} (hd : decode code pc = .ok (.ifCond .eq off, 3)) (ht : (pc : Int) + off = (tgt : Int)) (k1 : v = 0 → GL κ N xs tgt L S M) (k2 : ¬ v = 0 → GL κ N xs (pc + 3) L S M) : GL κ N xs pc L (.int v :: S) M :=
  fun p l e s m args below meth c H locs ls hB hP hS hL => lv_if_eq hB.1 hB.2.1 hd ht (fun z => k1 z p l e s m args below meth c H locs ls hB hP hS hL) (fun z => k2 z p l e s m args below meth c H locs ls hB hP hS hL)
theorem l_iinc {i : Nat} {n : Int} {v w : Int32} (hd : decode code pc = .ok (.iinc i n, 3)) (hx : L[i]? = some (.int v)) (hv : v + Int32.ofInt n = w) (hn : i < 4) (ho : okst L i = true) {L' : List Value} (hl : L.set i (.int w) = L') (k : GL κ N xs (pc + 3) L' S M) : GL κ N xs pc L S M := by
  intro p l e s m args below meth c H locs ls hB hP hS hL
  obtain ⟨j, hj⟩ := List.getElem?_of_mem (asL_mem.mpr ⟨_, hx, by simp, rfl⟩ : (i, rv κ (.int v)) ∈ asL κ L)
  exact lv_iinc hB.1 hB.2.1 hd hL.has (k := j) hj hv hn rfl (fun ls h => k p l e s m args below meth c H locs ls hB hP hS (hl ▸ LR.set1 (w := .int w) ho h))
theorem l_tabOut {dflt lo hi : Int} {offs : Array Int} {len : Nat} {v : Int32} {tgt : Nat} (hd : decode code pc = .ok (.tableswitch dflt lo hi offs, len)) (h : v.toInt < lo ∨ hi < v.toInt) (ht : (pc : Int) + dflt = (tgt : Int)) (k : GL κ N xs tgt L S M) : GL κ N xs pc L (.int v :: S) M :=
  fun p l e s m args below meth c H locs ls hB hP hS hL => lv_tableOut hB.1 hB.2.1 hd h ht (k p l e s m args below meth c H locs ls hB hP hS hL)
theorem l_tabIn {dflt lo hi : Int} {offs : Array Int} {len : Nat} {v : Int32} {off : Int} {tgt : Nat} (hd : decode code pc = .ok (.tableswitch dflt lo hi offs, len)) (h1 : ¬ v.toInt < lo) (h2 : ¬ hi < v.toInt) (ho : offs[(v.toInt - lo).toNat]? = some off) (ht : (pc : Int) + off = (tgt : Int)) (k : GL κ N xs tgt L S M) : GL κ N xs pc L (.int v :: S) M :=
  fun p l e s m args below meth c H locs ls hB hP hS hL => lv_tableIn hB.1 hB.2.1 hd h1 h2 ho ht (k p l e s m args below meth c H locs ls hB hP hS hL)
theorem l_tab {dflt : Int} {hi : Nat} {offs : Array Int} {len : Nat} {v : Int32} {dt : Nat} (tg : Nat → Nat) (hd : decode code pc = .ok (.tableswitch dflt 0 (hi : Int) offs, len)) (hsm : hi < 2 ^ 31) (ho : (List.range (hi + 1)).all (fun k => match offs[k]? with | some off => (pc : Int) + off == (tg k : Int) | none => false) = true) (hdt : (pc : Int) + dflt = (dt : Int)) (k1 : ∀ k, k ≤ hi → GL κ N xs (tg k) L S M) (k2 : GL κ N xs dt L S M) : GL κ N xs pc L (.int v :: S) M := by
  by_cases h : ∃ k, k ≤ hi ∧ v = nI k
  · obtain ⟨k, hk, rfl⟩ := h
    have e : (nI k).toInt = (k : Int) := nI_toInt (by omega)
    have h1 := List.all_eq_true.mp ho k (List.mem_range.mpr (by omega))
    cases ho2 : offs[k]? with
    | none => rw [ho2] at h1; simp at h1
    | some off =>
      rw [ho2] at h1
      simp only [beq_iff_eq] at h1
      exact l_tabIn hd (by rw [e]; omega) (by rw [e]; omega) (off := off) (by rw [e]; simpa using ho2) h1 (k1 k hk)
  · refine l_tabOut hd ?_ hdt k2
    rcases Int.lt_or_le v.toInt 0 with h1 | h1
    · exact Or.inl h1
    · refine Or.inr (Int.not_le.mp fun h2 => h ⟨v.toInt.toNat, by omega, ?_⟩)
      apply Int32.toInt_inj.mp
      rw [nI_toInt (by omega)]
      omega
/-- the script's length, the script's ints -/
theorem l_slen (hd : decode code pc = .ok (.arraylength, 1)) (k : GL κ N xs (pc + 1) L (.int (nI N) :: S) M) : GL κ N xs pc L (.ref 998 :: S) M :=
  fun p l e s m args below meth c H locs ls hB hP hS hL => va_slen hB.1 hB.2.1 hB.2.2.2.2.2.2.2.2.1 hB.2.2.2.2.2.2.2.2.2.1 (Nat.not_le.mpr hB.2.2.2.2.2.2.2.2.2.1) hS hd (k p l e s m args below meth c H locs ls hB hP hS hL)
theorem l_sld {i : Int32} (hin : vp_in i N) (hd : decode code pc = .ok (.iaload, 1)) (k : GL κ N xs (pc + 1) L (.int (xs i.toNatClampNeg) :: S) M) : GL κ N xs pc L (.int i :: .ref 998 :: S) M :=
  fun p l e s m args below meth c H locs ls hB hP hS hL => va_sld hB.1 hB.2.1 hB.2.2.2.2.2.2.2.2.1 hB.2.2.2.2.2.2.2.2.2.1 (Nat.not_le.mpr hB.2.2.2.2.2.2.2.2.2.1) hS hin hd (k p l e s m args below meth c H locs ls hB hP hS hL)
/-- a call of a method on one of the two objects -/
theorem l_call {μ' : gM} {c ci idx n : Nat} {as S0 : List Value} {q : vw_C} {ty : FieldType} (hd : decode code pc = .ok (.invokevirtual idx, 3)) (hs : shp c = (0, ci)) (hc : classes[ci]? = some q) (hq : q.1 = μ'.1.cls) (hV : okV RL idx μ') (hPa : okP μ' n) (hn : as.length = n) (hlv : μ'.2.2.2.2 ≤ 8) (hml : μ'.2.2.1 ≤ 11) (hcat : (S.map fun v => v.category).sum ≤ 8) (hret : μ'.2.2.2.1 = some ty) (hS0 : S0 = as.reverse ++ .ref c :: S)
    (hk : Cl κ μ' (.ref c :: as) M (fun r M' => GL κ N xs (pc + 3) L (.int r :: S) M')) : GL κ N xs pc L S0 M := by
  intro p l e s m args below meth cd H locs ls hB hP hS hL
  subst hS0
  have hw := wrld_at κ M (shp_lt hs (by simp))
  rw [cont_o κ M hs] at hw
  have ok : ∀ w ∈ tbG, w.before args s = true := hB.2.2.2.2.2.1
  have hK : okK κ s s.heap := hB.2.2.2.2.2.2.2.1
  have hA : ∀ q, kA κ q → s.heap.size ≤ q := hB.2.2.2.2.2.2.2.2.2.2.1
  have hrecv := va_recv hK.1 hP hc hw
  rw [hq] at hrecv
  have hr := va_runV (p := p) (e := e) (below := below) (meth := meth) (locs := locs) (cells := 135) (slots := lawSl) (H := H) (s := s) (args := args) (As := as.map (rv κ)) (rest := S.map (rv κ)) (b := κ.2.1 c) (C := μ'.1.cls) (index := idx) (bytes := μ'.2.1) (maxL := μ'.2.2.1) (ret := μ'.2.2.2.1) (n := n) (g := F0 m pc ls ((as.reverse ++ .ref c :: S).map (rv κ))) (R := room_1) ⟨hB.1, hB.2.1, hB.2.2.2.1, hB.2.2.2.2.1, ok⟩ (hk l) ⟨callB_of n ok (wsM_good hV.1.2.1) rfl rfl rfl (ok _ hV.1.2.2) (ok _ hV.1.1) hPa ⟨by show μ'.2.2.2.2 + 1 ≤ 9; omega, by show 8 + (μ'.2.2.1 + 11) + 30 * μ'.2.2.2.2 ≤ 304; omega⟩, ok _ hV.2.1, ok _ hV.2.2⟩ ⟨g_blind κ M (.ref c :: as), hrecv, fun U hU hW => ⟨rfl, by rw [hU]; exact hP, by rw [hU]; exact (hK.kept (fun a h1 h2 => hS.2.1 a h1 (Nat.not_le.mpr h1))).moved hW.alike⟩⟩ rfl (by simpa using hn) hL.1 (by simp [rv]) (lv_room (g_cats κ hcat)) hd ⟨by decide, by decide⟩
  simp only [FQ, hret] at hr
  exact va_calli hr hS (fun q _ h => hA q h) hA (fun r u t H1 locs1 ht _ hw hb _ _ hS1 => hw p l e s m args below meth cd H1 locs1 ls hB (ht ▸ hb) hS1 hL)
/-- the law's end -/
theorem l_end (hd : decode code pc = .ok (.ireturn, 1)) : GL κ N xs pc L [.int 1] M := by
  intro p l e s m args below meth c H locs ls hB hP hS hL
  have ha := hB.2.2.2.2.2.2.2.2.2.2.2
  subst ha
  refine va_forget (fun q hq => hS.2.2 q hq) ?_
  refine W.widen (k := 600000) (n := 7302250) (by decide) (by decide) ?_
  exact lw_ret hB.1 hB.2.1 hB.2.2.1 hB.2.2.2.2.2.2.1 hd
def Lw (i : Nat) : List Value := [.ref 998, .ref 0, .ref 119, .int (nI i)]
/-- the script's int k places behind i -/
theorem l_arg {i k : Nat} {n : Int} (hi : i + k < N) (hN : N ≤ 256) (d0 : decode code pc = .ok (.aload_n 0, 1)) (d1 : decode code (pc + 1) = .ok (.iload_n 3, 1)) (d2 : decode code (pc + 2) = .ok (.iconst n, 1)) (d3 : decode code (pc + 3) = .ok (.iadd, 1)) (d4 : decode code (pc + 4) = .ok (.iaload, 1)) (hk : Int32.ofInt n = nI k) (kk : GL κ N xs (pc + 5) (Lw i) (.int (xs (i + k)) :: S) M) : GL κ N xs pc (Lw i) S M := by
  refine l_aload_n d0 rfl rfl ?_
  refine l_iload_n d1 rfl rfl ?_
  refine l_iconst d2 hk ?_
  refine l_iadd d3 ?_
  rw [nI_add]
  refine l_sld (vp_in_nI hi (by omega)) d4 ?_
  rw [nI_clamp (by omega)]
  exact kk
end Law1
