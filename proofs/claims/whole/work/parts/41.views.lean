/-! WHAT THE CELLS MEAN: a town t = (layers, sign, persons, dawns, kinds, lights); a state st = (days, marks, layers, ears, heard), all of them numbers from 0 on -/
abbrev TW : Type := Nat × Nat × Nat × Nat × (Nat → Nat) × (Nat → Nat)
abbrev ST : Type := Nat × Nat × (Nat → Nat) × (Nat → Nat) × (Nat → Nat)
def Tw (M : MM) (o : Nat) (t : TW) : Prop := M o 4 = nI t.1 ∧ M o 5 = nI t.2.1 ∧ M o 6 = nI t.2.2.1 ∧ M o 7 = nI t.2.2.2.1 ∧ (∀ p, p < t.2.2.1 → M (o + 1) p = nI (t.2.2.2.2.1 p)) ∧ ∀ k, k < t.2.2.2.1 → M (o + 4) k = nI (t.2.2.2.2.2 k)
def TwR (M : MM) (t : TW) : Prop := M 119 0 = nI t.1 ∧ M 119 1 = nI t.2.1 ∧ M 119 2 = nI t.2.2.1 ∧ M 119 5 = nI t.2.2.2.1 ∧ (∀ p, p < t.2.2.1 → M 120 p = nI (t.2.2.2.2.1 p)) ∧ ∀ k, k < t.2.2.2.1 → M 121 k = nI (t.2.2.2.2.2 k)
def twOk (t : TW) : Prop := ((t.1 = 0 ∧ t.2.1 = 0 ∧ t.2.2.1 = 0 ∧ t.2.2.2.1 = 0) ∨ (2 ≤ t.1 ∧ t.1 ≤ 9 ∧ t.2.1 < t.1)) ∧ t.2.2.1 ≤ 8 ∧ t.2.2.2.1 ≤ 12 ∧ (∀ p, p < t.2.2.1 → t.2.2.2.2.1 p ≤ 4) ∧ ∀ k, k < t.2.2.2.1 → 1 ≤ t.2.2.2.2.2 k ∧ t.2.2.2.2.2 k ≤ 9
def Sv (M : MM) (o : Nat) (s : ST) : Prop := M o 3 = nI s.1 ∧ M o 4 = nI s.2.1 ∧ ∀ p, p < 8 → M (o + 1) p = nI (s.2.2.1 p) ∧ M (o + 2) p = nI (s.2.2.2.1 p) ∧ M (o + 3) p = nI (s.2.2.2.2 p)
/-- a state in a row of ints, from a place on -/
def Rv (M : MM) (b z : Nat) (s : ST) : Prop := M b z = nI s.1 ∧ M b (z + 1) = nI s.2.1 ∧ ∀ p, p < 8 → M b (z + 2 + p) = nI (s.2.2.1 p) ∧ M b (z + 10 + p) = nI (s.2.2.2.1 p) ∧ M b (z + 18 + p) = nI (s.2.2.2.2 p)
/-- bounds that every state keeps -/
def stOk (t : TW) (s : ST) : Prop := s.1 ≤ 1000000 ∧ s.2.1 < 2 ^ t.1 ∧ (∀ p, s.2.2.1 p < 2 ^ t.1) ∧ (∀ p, p < t.2.2.1 → 0 < s.2.2.1 p) ∧ (∀ p, t.2.2.1 ≤ p → s.2.2.1 p = 0) ∧ (∀ p, s.2.2.2.1 p ≤ 9) ∧ ∀ p, s.2.2.2.2 p ≤ 999999
/-- cells outside a range are as they were -/
def fr (a b : Nat) (M M' : MM) : Prop := ∀ c, (c < a ∨ b ≤ c) → M' c = M c
theorem fr.rf {a b : Nat} {M : MM} : fr a b M M := fun _ _ => rfl
theorem fr.tr {a b : Nat} {M M1 M2 : MM} (h : fr a b M M1) (h2 : fr a b M1 M2) : fr a b M M2 := fun c hc => (h2 c hc).trans (h c hc)
theorem fr.up {a b a' b' : Nat} {M M1 : MM} (h : fr a b M M1) (ha : a' ≤ a) (hb : b ≤ b') : fr a' b' M M1 := fun c hc => h c (by omega)
theorem fr.pt {a b c k : Nat} {M M1 : MM} {x : Int32} (h : fr a b M M1) (h1 : a ≤ c) (h2 : c < b) : fr a b M (pt M1 c k x) := fun d hd => by rw [pt_c M1 x (by omega)]; exact h d hd
theorem fr.cp {a b c d n : Nat} {M M1 : MM} (h : fr a b M M1) (h1 : a ≤ d) (h2 : d < b) : fr a b M (cp M1 c d n) := fun e he => by
  have : e ≠ d := by omega
  show sC M1 d _ e = _
  rw [sC_n M1 _ this]
  exact h e he
theorem Tw.kept {M M' : MM} {o : Nat} {t : TW} (h : Tw M o t) (h0 : M' o = M o) (h1 : M' (o + 1) = M (o + 1)) (h4 : M' (o + 4) = M (o + 4)) : Tw M' o t := by
  unfold Tw at *
  rw [h0, h1, h4]; exact h
theorem Tw.fr {M M' : MM} {o a b : Nat} {t : TW} (h : Tw M o t) (hf : fr a b M M') (hs : o + 4 < a ∨ b ≤ o) : Tw M' o t := h.kept (hf _ (by omega)) (hf _ (by omega)) (hf _ (by omega))
theorem TwR.fr {M M' : MM} {a b : Nat} {t : TW} (h : TwR M t) (hf : fr a b M M') (hs : 121 < a ∨ b ≤ 119) : TwR M' t := by
  unfold TwR at *
  rw [hf 119 (by omega), hf 120 (by omega), hf 121 (by omega)]; exact h
theorem Sv.kept {M M' : MM} {o : Nat} {s : ST} (h : Sv M o s) (h0 : M' o = M o) (h1 : M' (o + 1) = M (o + 1)) (h2 : M' (o + 2) = M (o + 2)) (h3 : M' (o + 3) = M (o + 3)) : Sv M' o s := by
  unfold Sv at *
  rw [h0, h1, h2, h3]; exact h
theorem Sv.fr {M M' : MM} {o a b : Nat} {s : ST} (h : Sv M o s) (hf : fr a b M M') (hs : o + 3 < a ∨ b ≤ o) : Sv M' o s := h.kept (hf _ (by omega)) (hf _ (by omega)) (hf _ (by omega)) (hf _ (by omega))
theorem Rv.fr {M M' : MM} {b z a e : Nat} {s : ST} (h : Rv M b z s) (hf : fr a e M M') (hs : b < a ∨ e ≤ b) : Rv M' b z s := by
  unfold Rv at *
  rw [hf b (by omega)]; exact h
theorem b1 {A B : Prop} (h : B) : ((1 : Int32) = 0 → A) ∧ (¬ (1 : Int32) = 0 → B) := ⟨fun e => absurd e (by decide), fun _ => h⟩
theorem b0 {A B : Prop} (h : A) : ((0 : Int32) = 0 → A) ∧ (¬ (0 : Int32) = 0 → B) := ⟨fun _ => h, fun e => absurd rfl e⟩
/-! what a crow does -/
def rotN (n x k : Nat) : Nat := if n = 0 then x else (x * 2 ^ k ||| x / 2 ^ (n - k)) % 2 ^ n
def strd (n k : Nat) : Nat := if n = 0 then 0 else if k = 1 then 2 % n else if k = 3 then n - 1 else 1
def crowF (n k x day : Nat) : Nat := if k = 2 then x ||| rotN n x 1 else if k = 4 ∧ day % 2 ≠ 0 then x else rotN n x (strd n k)
def lightF (t : TW) (day : Nat) : Nat := if t.2.2.2.1 = 0 then 5 else t.2.2.2.2.2 (day % t.2.2.2.1)
def hearB (t : TW) (light : Nat) (s : ST) (p : Nat) : Bool := decide (p < t.2.2.1) && decide (light ≤ s.2.2.2.1 p)
/-- the crow as heard by the persons below k -/
def crowS (t : TW) (light k : Nat) (s : ST) : ST := (s.1, s.2.1, fun p => if p < k ∧ hearB t light s p = true then crowF t.1 (t.2.2.2.2.1 p) (s.2.2.1 p) s.1 else s.2.2.1 p, s.2.2.2.1, fun p => if p < k ∧ hearB t light s p = true then min (s.2.2.2.2 p + 1) 999999 else s.2.2.2.2 p)
def dawnS (t : TW) (s : ST) : ST := ((crowS t (lightF t s.1) 8 s).1 + 1, (crowS t (lightF t s.1) 8 s).2)
theorem rotN_lt {n x k : Nat} (h : 0 < n) : rotN n x k < 2 ^ n := by
  unfold rotN
  rw [if_neg (by omega)]
  exact Nat.mod_lt _ (Nat.two_pow_pos n)
theorem p2le {n : Nat} (h : n ≤ 9) : 2 ^ n ≤ 512 := Nat.pow_le_pow_right (by decide) h
theorem strd_le {n k : Nat} (h : 2 ≤ n) : strd n k < n := by
  unfold strd
  rw [if_neg (by omega)]
  split
  · exact Nat.mod_lt _ (by omega)
  · split <;> omega
theorem or_lt {a b n : Nat} (ha : a < 2 ^ n) (hb : b < 2 ^ n) : a ||| b < 2 ^ n := Nat.or_lt_two_pow ha hb
theorem crowF_lt {n k x day : Nat} (h : 0 < n) (hx : x < 2 ^ n) : crowF n k x day < 2 ^ n := by
  unfold crowF
  split
  · exact or_lt hx (rotN_lt h)
  · split
    · exact hx
    · exact rotN_lt h
/-- a set that goes on is none only if it was none -/
theorem rotN_pos {n x k : Nat} (h : 0 < n) (hk : k < n) (hx0 : 0 < x) (hx : x < 2 ^ n) : 0 < rotN n x k := by
  unfold rotN
  rw [if_neg (by omega)]
  obtain ⟨i, hi⟩ : ∃ i, x.testBit i = true := Nat.exists_testBit_of_ne_zero (by omega)
  have hin : i < n := by
    rcases Nat.lt_or_ge i n with h1 | h1
    · exact h1
    · rw [Nat.testBit_lt_two_pow (Nat.lt_of_lt_of_le hx (Nat.pow_le_pow_right (by decide) h1))] at hi
      cases hi
  refine Nat.pos_of_ne_zero fun e => ?_
  by_cases c : i + k < n
  · have h2 : ((x * 2 ^ k ||| x / 2 ^ (n - k)) % 2 ^ n).testBit (i + k) = true := by
      rw [Nat.testBit_mod_two_pow, Nat.testBit_or, Nat.testBit_mul_two_pow]
      simp [c, hi]
    rw [e] at h2
    simp at h2
  · have h2 : ((x * 2 ^ k ||| x / 2 ^ (n - k)) % 2 ^ n).testBit (i + k - n) = true := by
      rw [Nat.testBit_mod_two_pow, Nat.testBit_or, Nat.testBit_div_two_pow]
      have e1 : i + k - n + (n - k) = i := by omega
      have e2 : i + k - n < n := by omega
      simp [e1, e2, hi]
    rw [e] at h2
    simp at h2
theorem crowF_pos {n k x day : Nat} (h : 2 ≤ n) (hx0 : 0 < x) (hx : x < 2 ^ n) : 0 < crowF n k x day := by
  unfold crowF
  split
  · exact Nat.lt_of_lt_of_le hx0 Nat.left_le_or
  · split
    · exact hx0
    · exact rotN_pos (by omega) (strd_le h) hx0 hx
theorem crowS_ok {t : TW} {light k : Nat} {s : ST} (ht : twOk t) (h : stOk t s) : stOk t (crowS t light k s) := by
  obtain ⟨h1, h2, h3, h4, h5, h6, h7⟩ := h
  have hn : ∀ p, hearB t light s p = true → 2 ≤ t.1 ∧ p < t.2.2.1 := by
    intro p hp
    simp only [hearB, Bool.and_eq_true, decide_eq_true_eq] at hp
    rcases ht.1 with ⟨a, b, c, d⟩ | a
    · omega
    · exact ⟨a.1, hp.1⟩
  refine ⟨h1, h2, fun p => ?_, fun p hp => ?_, fun p hp => ?_, h6, fun p => ?_⟩
  · show (if _ then _ else _) < _
    split
    · rename_i c
      exact crowF_lt (by have := hn p c.2; omega) (h3 p)
    · exact h3 p
  · show 0 < (if _ then _ else _)
    split
    · rename_i c
      exact crowF_pos (hn p c.2).1 (h4 p hp) (h3 p)
    · exact h4 p hp
  · show (if _ then _ else _) = 0
    split
    · rename_i c
      exact absurd (hn p c.2).2 (by omega)
    · exact h5 p hp
  · show (if _ then _ else _) ≤ _
    split
    · exact Nat.min_le_right _ _
    · exact h7 p
