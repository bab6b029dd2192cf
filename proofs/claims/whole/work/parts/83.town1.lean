/-! THE TEXT: a = (length, letters). Reading is at a place, or a fault was found: .inl (its number, its place) -/
abbrev XR : Type := (Nat × Nat) ⊕ Nat
def runF (pr : Nat → Bool) : Nat → Nat → Nat
  | 0, i => i
  | k + 1, i => if pr i = true then runF pr k (i + 1) else i
def rn (pr : Nat → Bool) (len i : Nat) : Nat := runF pr (len - i) i
theorem rn_step {pr : Nat → Bool} {len i : Nat} (hi : i < len) (h : pr i = true) : rn pr len i = rn pr len (i + 1) := by
  unfold rn
  rw [show len - i = (len - (i + 1)) + 1 by omega]
  show (if _ then _ else _) = _
  rw [if_pos h]
theorem rn_stop {pr : Nat → Bool} {len i : Nat} (h : pr i = false) : rn pr len i = i := by
  unfold rn
  cases len - i with
  | zero => rfl
  | succ k =>
    show (if _ then _ else _) = _
    rw [if_neg (by rw [h]; decide)]
/-- a loop that goes on while pr says so -/
theorem rn_ind {pr : Nat → Bool} {len : Nat} (hp : ∀ i, pr i = true → i < len) (P : Nat → Nat → Prop) (h0 : ∀ i, pr i = false → P i i) (h1 : ∀ i j, i < len → pr i = true → P (i + 1) j → P i j) : ∀ i, P i (rn pr len i) := by
  have key : ∀ k i, len - i = k → P i (rn pr len i) := by
    intro k
    induction k with
    | zero =>
      intro i hk
      have : pr i = false := by
        cases q : pr i with
        | false => rfl
        | true => exact absurd (hp i q) (by omega)
      rw [rn_stop this]; exact h0 i this
    | succ k ih =>
      intro i hk
      cases q : pr i with
      | false => rw [rn_stop q]; exact h0 i q
      | true => rw [rn_step (by omega) q]; exact h1 i _ (by omega) q (ih (i + 1) (by omega))
  exact fun i => key _ i rfl
def isBl (a : AT) (i : Nat) : Bool := decide (i < a.1) && decide (a.2 i = 32)
def isFg (a : AT) (i : Nat) : Bool := decide (i < a.1) && (decide (48 ≤ a.2 i) && decide (a.2 i ≤ 57))
theorem isBl_lt {a : AT} (i : Nat) (h : isBl a i = true) : i < a.1 := by unfold isBl at h; rw [Bool.and_eq_true, decide_eq_true_eq] at h; exact h.1
theorem isFg_lt {a : AT} (i : Nat) (h : isFg a i = true) : i < a.1 := by unfold isFg at h; rw [Bool.and_eq_true, decide_eq_true_eq] at h; exact h.1
def sk (a : AT) (i : Nat) : Nat := rn (isBl a) a.1 i
def fe (a : AT) (i : Nat) : Nat := rn (isFg a) a.1 i
theorem rn_le {pr : Nat → Bool} {len : Nat} (hp : ∀ i, pr i = true → i < len) (i : Nat) : i ≤ rn pr len i ∧ (i ≤ len → rn pr len i ≤ len) ∧ rn pr len i ≤ max i len :=
  rn_ind hp (fun i j => i ≤ j ∧ (i ≤ len → j ≤ len) ∧ j ≤ max i len) (fun i _ => ⟨Nat.le_refl _, fun h => h, Nat.le_max_left _ _⟩) (fun i j h _ q => ⟨by omega, fun _ => q.2.1 (by omega), by omega⟩) i
theorem rn_end {pr : Nat → Bool} {len : Nat} (hp : ∀ i, pr i = true → i < len) (i : Nat) : pr (rn pr len i) = false := rn_ind hp (fun _ j => pr j = false) (fun _ h => h) (fun _ _ _ _ q => q) i
/-- what the figures from a place on say -/
def vl (a : AT) (i : Nat) : Nat → Nat
  | 0 => 0
  | k + 1 => vl a i k * 10 + (a.2 (i + k) - 48)
theorem vl_s (a : AT) (i k : Nat) : vl a i (k + 1) = vl a i k * 10 + (a.2 (i + k) - 48) := rfl
def numX (a : AT) (lo hi i : Nat) : XR × Nat :=
  if fe a (sk a i) = sk a i then (.inl (1, sk a i), 0)
  else if 3 < fe a (sk a i) - sk a i ∨ vl a (sk a i) (fe a (sk a i) - sk a i) < lo ∨ hi < vl a (sk a i) (fe a (sk a i) - sk a i) then (.inl (2, sk a i), 0)
  else (.inr (fe a (sk a i)), vl a (sk a i) (fe a (sk a i) - sk a i))
def num (a : AT) (lo hi : Nat) : XR → XR × Nat
  | .inl e => (.inl e, 0)
  | .inr i => numX a lo hi i
def wrdX (a : AT) (c i : Nat) : XR := if sk a i < a.1 ∧ a.2 (sk a i) = c then .inr (sk a i + 1) else .inl (1, sk a i)
def wrd (a : AT) (c : Nat) : XR → XR
  | .inl e => .inl e
  | .inr i => wrdX a c i
section Town1
variable {κ : gK} {M : MM} {Q : Int32 → MM → Prop} {a : AT}
def aOk (a : AT) : Prop := a.1 ≤ 240 ∧ ∀ i, i < a.1 → a.2 i ≤ 255
/-- the reader's cells of the class -/
def RdC (M : MM) (a : AT) (x : XR) : Prop := M 11 1 = nI a.1 ∧ (∀ i, i < a.1 → M 12 i = nI (a.2 i)) ∧ match x with
  | .inl e => (∃ i, i ≤ a.1 ∧ M 11 2 = nI i) ∧ M 11 3 = nI e.1 ∧ (0 < e.1 ∧ e.1 < 4) ∧ M 11 4 = nI e.2
  | .inr i => (i ≤ a.1 ∧ M 11 2 = nI i) ∧ M 11 3 = nI 0 ∧ M 11 4 = -1
/-- nothing but the reader's own cell changed -/
def f11 (M M' : MM) : Prop := fr 11 12 M M'
theorem s_letterHere {i : Nat} (ha : aOk a) (h1 : M 11 1 = nI a.1) (h2 : ∀ i, i < a.1 → M 12 i = nI (a.2 i)) (hi : i ≤ a.1) (h3 : M 11 2 = nI i) (h : Q (if i < a.1 then nI (a.2 i) else -1) M) : Cl κ mX5_letterHere [.ref 11] M Q := by
  have h240 := ha.1
  refine eX5_letterHere (bX5_letterHere_0 ?_)
  rw [h3, h1]
  refine ⟨fun c => absurd c (nI_pos (by omega)), fun _ => ⟨fun c => bX5_letterHere_30 (bX5_letterHere_31 _ ?_), fun c => ⟨vp_in_nI ?_ (by decide), bX5_letterHere_31 _ ?_⟩⟩⟩
  · have c := (nI_leI (by omega) (by omega)).mp c
    rw [if_neg (by omega)] at h; exact h
  · rcases Nat.lt_or_ge i a.1 with q | q
    · omega
    · exact absurd (nI_le q (by omega)) c
  · have q : i < a.1 := by
      rcases Nat.lt_or_ge i a.1 with q | q
      · exact q
      · exact absurd (nI_le q (by omega)) c
    rw [if_pos q] at h
    rw [tNI (by omega), h2 i q]; exact h
theorem s_skipBlanks {i : Nat} (ha : aOk a) (h1 : M 11 1 = nI a.1) (h2 : ∀ i, i < a.1 → M 12 i = nI (a.2 i)) (hi : i ≤ a.1) (h3 : M 11 2 = nI i) (h : ∀ M', f11 M M' → (∀ k, k ≠ 2 → M' 11 k = M 11 k) → M' 11 2 = nI (sk a i) → Q 0 M') : Cl κ mX5_skipBlanks [.ref 11] M Q := by
  have h240 := ha.1
  refine eX5_skipBlanks ?_
  have key := rn_ind (pr := isBl a) (len := a.1) isBl_lt (fun i j => i ≤ a.1 → ∀ M', f11 M M' → (∀ k, k ≠ 2 → M' 11 k = M 11 k) → M' 11 2 = nI i → (∀ M', f11 M M' → (∀ k, k ≠ 2 → M' 11 k = M 11 k) → M' 11 2 = nI j → Q 0 M') → G κ mX5_skipBlanks 0 [.ref 11] [] M' Q) ?_ ?_ i hi M fr.rf (fun _ _ => rfl) h3 h
  · exact key
  · intro i hb hi M' f' k' a' hq
    have m1 : M' 11 1 = nI a.1 := by rw [k' 1 (by decide)]; exact h1
    have m2 : ∀ i, i < a.1 → M' 12 i = nI (a.2 i) := fun i hi => by rw [f' 12 (by omega)]; exact h2 i hi
    refine bX5_skipBlanks_0 ?_
    rw [m1, a']
    refine ⟨fun _ => bX5_skipBlanks_33 (hq M' f' k' a'), fun c => ?_⟩
    have q : i < a.1 := by
      rcases Nat.lt_or_ge i a.1 with q | q
      · exact q
      · exact absurd (nI_le q (by omega)) c
    refine s_letterHere ha m1 m2 hi a' ?_
    rw [if_pos q]
    have hl := ha.2 i q
    refine ⟨fun e => ?_, fun _ => bX5_skipBlanks_33 (hq M' f' k' a')⟩
    have e : a.2 i = 32 := nI_inj (b := 32) (by omega) (by decide) e
    unfold isBl at hb
    rw [decide_eq_true q, decide_eq_true e] at hb
    cases hb
  · intro i j hil hb ih hi M' f' k' a' hq
    have m1 : M' 11 1 = nI a.1 := by rw [k' 1 (by decide)]; exact h1
    have m2 : ∀ i, i < a.1 → M' 12 i = nI (a.2 i) := fun i hi => by rw [f' 12 (by omega)]; exact h2 i hi
    refine bX5_skipBlanks_0 ?_
    rw [m1, a']
    refine ⟨fun c => absurd c (nI_ge hil (by omega)), fun _ => s_letterHere ha m1 m2 hi a' ?_⟩
    rw [if_pos hil]
    unfold isBl at hb
    rw [Bool.and_eq_true, decide_eq_true_eq, decide_eq_true_eq] at hb
    refine ⟨fun _ => ?_, fun c => absurd (by rw [hb.2]; rfl) c⟩
    rw [a', nI_1]
    rintro M2 e2
    refine ih (by omega) M2 (by rw [e2]; exact f'.pt (by omega) (by omega)) (fun k hk => by rw [e2, pt_k _ _ hk]; exact k' k hk) (by rw [e2, pt_s]) hq
theorem s_isFigure {c : Nat} (hc : c ≤ 255) (h1 : 48 ≤ c ∧ c ≤ 57 → Q 1 M) (h0 : ¬ (48 ≤ c ∧ c ≤ 57) → Q 0 M) : Cl κ mX5_isFigure [.int (nI c)] M Q := by
  refine eX5_isFigure _ (bX5_isFigure_0 _ ⟨fun e => bX5_isFigure_16 (bX5_isFigure_17 _ ⟨.inl rfl, h0 ?_⟩), fun e => ⟨fun e2 => bX5_isFigure_16 (bX5_isFigure_17 _ ⟨.inl rfl, h0 ?_⟩), fun e2 => bX5_isFigure_17 _ ⟨.inr rfl, h1 ?_⟩⟩⟩)
  · have := (nI_ltI (b := 48) (by omega) (by decide)).mp e
    omega
  · have := (nI_ltI (a := 57) (by decide) (by omega)).mp e2
    omega
  · have a1 : ¬ c < 48 := fun q => e (nI_lt (b := 48) q (by decide))
    have a2 : ¬ 57 < c := fun q => e2 (nI_lt (a := 57) q (by omega))
    omega
theorem s_blame {n w : Int32} (h1 : M 11 3 = 0 → ∀ M', f11 M M' → (∀ k, k ≠ 3 → k ≠ 4 → M' 11 k = M 11 k) → M' 11 3 = n → M' 11 4 = w → Q 0 M') (h0 : M 11 3 ≠ 0 → Q 0 M) : Cl κ mX5_blame [.ref 11, .int n, .int w] M Q := by
  refine eX5_blame _ _ (bX5_blame_0 _ _ ⟨fun e => ?_, fun e => bX5_blame_17 (h0 e)⟩)
  rintro M1 e1 M2 e2
  refine bX5_blame_17 (h1 e M2 (by rw [e2, e1]; exact (fr.rf.pt (by omega) (by omega)).pt (by omega) (by omega)) (fun k k1 k2 => by rw [e2, pt_k _ _ k2, e1, pt_k _ _ k1]) (by rw [e2, pt_k _ _ (by decide), e1, pt_s]) (by rw [e2, pt_s]))
theorem vl_lt {i : Nat} : ∀ k, (∀ j, j < k → a.2 (i + j) ≤ 57) → vl a i k < 10 ^ k := by
  intro k
  induction k with
  | zero => intro _; exact Nat.one_pos
  | succ k ih =>
    intro h
    have h1 := ih (fun j hj => h j (by omega))
    have h2 := h k (by omega)
    rw [vl_s, Nat.pow_succ]
    omega
end Town1
