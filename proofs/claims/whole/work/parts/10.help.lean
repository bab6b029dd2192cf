def jshl (x y : Int32) : Int32 := x <<< (y &&& 31)
def jshr (x y : Int32) : Int32 := x >>> (y &&& 31)
def jush (x y : Int32) : Int32 := (x.toUInt32 >>> (y.toUInt32 &&& Int32.toUInt32 31)).toInt32
def irm (x y : Int32) : Int32 := x - x / y * y
def jmax (x y : Int32) : Int32 := if x < y then y else x
def jmin (x y : Int32) : Int32 := if y < x then y else x
def isB (x : Int32) : Prop := x = 0 ∨ x = 1
theorem isB_n {x : Int32} (h : isB x) : narrow .boolean (.int x) = .int x := by rcases h with rfl | rfl <;> rfl
theorem isB_v {x : Int32} (h : isB x) : vp_nar .boolean x = x := by rcases h with rfl | rfl <;> rfl
theorem g_tab {κ : gK} {μ : gM} {pc : Nat} {L S : List Value} {M : MM} {Q : Int32 → MM → Prop} {dflt : Int} {hi : Nat} {offs : Array Int} {len : Nat} {x : Int32} {dt : Nat} (tg : Nat → Nat) (hd : decode μ.2.1 pc = .ok (.tableswitch dflt 0 (hi : Int) offs, len)) (hsm : hi < 2 ^ 31) (ho : (List.range (hi + 1)).all (fun k => match offs[k]? with | some off => (pc : Int) + off == (tg k : Int) | none => false) = true) (hdt : (pc : Int) + dflt = (dt : Int)) (k1 : ∀ k, k ≤ hi → x = nI k → G κ μ (tg k) L S M Q) (k2 : (∀ k, k ≤ hi → x ≠ nI k) → G κ μ dt L S M Q) : G κ μ pc L (.int x :: S) M Q := by
  by_cases h : ∃ k, k ≤ hi ∧ x = nI k
  · obtain ⟨k, hk, rfl⟩ := h
    have e : (nI k).toInt = (k : Int) := nI_toInt (by omega)
    have h1 := List.all_eq_true.mp ho k (List.mem_range.mpr (by omega))
    cases ho2 : offs[k]? with
    | none => rw [ho2] at h1; simp at h1
    | some off =>
      rw [ho2] at h1
      simp only [beq_iff_eq] at h1
      exact g_tabIn hd (by rw [e]; omega) (by rw [e]; omega) (off := off) (by rw [e]; simpa using ho2) h1 (k1 k hk rfl)
  · refine g_tabOut hd ?_ hdt (k2 (fun k hk e => h ⟨k, hk, e⟩))
    rcases Int.lt_or_le x.toInt 0 with h1 | h1
    · exact Or.inl h1
    · refine Or.inr (Int.not_le.mp fun h2 => h ⟨x.toInt.toNat, by omega, ?_⟩)
      apply Int32.toInt_inj.mp
      rw [nI_toInt (by omega)]
      omega
/-- a number on the stack gets a name -/
theorem lv_nm {κ : gK} {μ : gM} {pc : Nat} {L S : List Value} {M : MM} {Q : Int32 → MM → Prop} {x : Int32} (k : ∀ y : Int32, y = x → G κ μ pc L (.int y :: S) M Q) : G κ μ pc L (.int x :: S) M Q := k x rfl
/-- the memory gets a name -/
theorem g_nmM {κ : gK} {μ : gM} {pc : Nat} {L S : List Value} {M : MM} {Q : Int32 → MM → Prop} (k : ∀ M' : MM, M' = M → G κ μ pc L S M' Q) : G κ μ pc L S M Q := k M rfl
