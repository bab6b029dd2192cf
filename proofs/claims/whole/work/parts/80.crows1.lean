/-! CROWS: m lights as a number of m digits below 9, the first light in front -/
def dg (m v i : Nat) : Nat := v / 9 ^ (m - 1 - i) % 9
def hc : Nat → Nat → Nat → Nat
  | 0, _, _ => 0
  | m + 1, v, e => hc m (v / 9) e + (if v % 9 + 1 ≤ e then 1 else 0)
theorem hc_s (m v e : Nat) : hc (m + 1) v e = hc m (v / 9) e + (if v % 9 + 1 ≤ e then 1 else 0) := rfl
theorem hc_le : ∀ m v e, hc m v e ≤ m := by
  intro m
  induction m with
  | zero => intro v e; exact Nat.le_refl _
  | succ m ih =>
    intro v e
    rw [hc_s]
    have := ih (v / 9) e
    split <;> omega
def fg : Nat → Nat → Nat
  | 0, _ => 0
  | m + 1, v => fg m (v / 9) * 10 + (1 + v % 9)
theorem fg_s (m v : Nat) : fg (m + 1) v = fg m (v / 9) * 10 + (1 + v % 9) := rfl
theorem fg_lt : ∀ m v, fg m v < 10 ^ m := by
  intro m
  induction m with
  | zero => intro v; exact Nat.one_pos
  | succ m ih =>
    intro v
    rw [fg_s, Nat.pow_succ]
    have := ih (v / 9)
    omega
theorem pre_div {m v i : Nat} (h : i < m) : v / 9 ^ (m - 1 - i) / 9 = v / 9 ^ (m - i) := by
  rw [Nat.div_div_eq_div_mul, ← Nat.pow_succ, show (m - 1 - i).succ = m - i by omega]
theorem hc_pre {m v i e : Nat} (h : i < m) : hc (i + 1) (v / 9 ^ (m - (i + 1))) e = hc i (v / 9 ^ (m - i)) e + (if dg m v i + 1 ≤ e then 1 else 0) := by
  rw [hc_s, show m - (i + 1) = m - 1 - i by omega, pre_div h]; rfl
theorem fg_pre {m v i : Nat} (h : i < m) : fg (i + 1) (v / 9 ^ (m - (i + 1))) = fg i (v / 9 ^ (m - i)) * 10 + (1 + dg m v i) := by
  rw [fg_s, show m - (i + 1) = m - 1 - i by omega, pre_div h]; rfl
theorem dg_s {m v i : Nat} (h : i < m) : dg (m + 1) v i = dg m (v / 9) i := by
  unfold dg
  rw [show m + 1 - 1 - i = (m - 1 - i) + 1 by omega, Nat.pow_succ, Nat.mul_comm, ← Nat.div_div_eq_div_mul]
theorem dg_l (m v : Nat) : dg (m + 1) v m = v % 9 := by
  unfold dg
  rw [show m + 1 - 1 - m = 0 by omega, Nat.pow_zero, Nat.div_one]
theorem dg_lt (m v i : Nat) : dg m v i < 9 := Nat.mod_lt _ (by decide)
theorem dg_0 (m i : Nat) : dg m 0 i = 0 := by unfold dg; rw [Nat.zero_div]
/-- the digits don't fall -/
def ndP (m v : Nat) : Prop := ∀ i, i + 1 < m → v / 9 ^ (i + 1) % 9 ≤ v / 9 ^ i % 9
theorem hc_swap : ∀ i m v, i + 1 < m → v / 9 ^ i % 9 < v / 9 ^ (i + 1) % 9 → ∃ w, w < v ∧ ∀ e, hc m w e = hc m v e := by
  intro i
  induction i with
  | zero =>
    intro m v hm h
    obtain ⟨k, rfl⟩ : ∃ k, m = k + 2 := ⟨m - 2, by omega⟩
    rw [Nat.pow_zero, Nat.div_one, Nat.zero_add, Nat.pow_one] at h
    refine ⟨9 * (9 * (v / 9 / 9) + v % 9) + v / 9 % 9, by omega, fun e => ?_⟩
    rw [show k + 2 = (k + 1) + 1 from rfl, hc_s, hc_s, hc_s, hc_s]
    have e1 : (9 * (9 * (v / 9 / 9) + v % 9) + v / 9 % 9) / 9 / 9 = v / 9 / 9 := by omega
    have e2 : (9 * (9 * (v / 9 / 9) + v % 9) + v / 9 % 9) / 9 % 9 = v % 9 := by omega
    have e3 : (9 * (9 * (v / 9 / 9) + v % 9) + v / 9 % 9) % 9 = v / 9 % 9 := by omega
    rw [e1, e2, e3]
    omega
  | succ i ih =>
    intro m v hm h
    obtain ⟨k, rfl⟩ : ∃ k, m = k + 1 := ⟨m - 1, by omega⟩
    have d : ∀ j, v / 9 / 9 ^ j = v / 9 ^ (j + 1) := fun j => by rw [Nat.div_div_eq_div_mul, ← Nat.pow_succ']
    obtain ⟨w, hw, hh⟩ := ih k (v / 9) (by omega) (by rw [d, d]; exact h)
    refine ⟨9 * w + v % 9, by omega, fun e => ?_⟩
    rw [hc_s, hc_s, show (9 * w + v % 9) / 9 = w by omega, show (9 * w + v % 9) % 9 = v % 9 by omega, hh e]
/-- the next number whose digits don't fall -/
def nx : Nat → Nat → Nat
  | 0, v => v + 1
  | m + 1, v => if v % 9 < 8 then v + 1 else 9 * nx m (v / 9) + nx m (v / 9) % 9
theorem nx_s (m v : Nat) : nx (m + 1) v = if v % 9 < 8 then v + 1 else 9 * nx m (v / 9) + nx m (v / 9) % 9 := rfl
theorem nx_gt : ∀ m v, v < nx m v := by
  intro m
  induction m with
  | zero => intro v; exact Nat.lt_succ_self v
  | succ m ih =>
    intro v
    rw [nx_s]
    have := ih (v / 9)
    split <;> omega
theorem nx_least : ∀ m v w, ndP m w → w < 9 ^ m → v < w → nx m v ≤ w := by
  intro m
  induction m with
  | zero => intro v w _ _ h; exact h
  | succ m ih =>
    intro v w hn hw h
    rw [nx_s]
    by_cases q : v % 9 < 8
    · rw [if_pos q]; exact h
    · rw [if_neg q]
      have hw2 : w / 9 < 9 ^ m := by rw [Nat.pow_succ] at hw; omega
      have d : ∀ j, w / 9 / 9 ^ j = w / 9 ^ (j + 1) := fun j => by rw [Nat.div_div_eq_div_mul, ← Nat.pow_succ']
      have hu := ih (v / 9) (w / 9) (fun i hi => by rw [d, d]; exact hn (i + 1) (by omega)) hw2 (by omega)
      have hgt := nx_gt m (v / 9)
      by_cases z : nx m (v / 9) = w / 9
      · match m, hn, hw2, z, hgt with
        | 0, _, hw2, z, hgt => rw [Nat.pow_zero] at hw2; omega
        | m + 1, hn, _, z, _ =>
          have := hn 0 (by omega)
          rw [Nat.pow_zero, Nat.div_one, Nat.zero_add, Nat.pow_one] at this
          rw [z]
          omega
      · omega
theorem nx_dg : ∀ m v i, i < m → v < 9 ^ m → dg m v i < 8 → (∀ k, i < k → k < m → dg m v k = 8) → nx m v < 9 ^ m ∧ (∀ k, k < i → dg m (nx m v) k = dg m v k) ∧ ∀ k, i ≤ k → k < m → dg m (nx m v) k = dg m v i + 1 := by
  intro m
  induction m with
  | zero => intro v i hi; omega
  | succ m ih =>
    intro v i hi hv h8 hk
    have hp : 9 ^ (m + 1) = 9 ^ m * 9 := Nat.pow_succ 9 m
    rw [nx_s]
    by_cases q : v % 9 < 8
    · have him : i = m := by
        rcases Nat.lt_or_ge i m with z | z
        · have := hk m z (by omega)
          rw [dg_l] at this
          omega
        · omega
      subst him
      rw [if_pos q]
      refine ⟨?_, fun k hk => ?_, fun k hk1 hk2 => ?_⟩
      · have : v / 9 < 9 ^ i := by omega
        omega
      · rw [dg_s hk, dg_s hk, show (v + 1) / 9 = v / 9 by omega]
      · have : k = i := by omega
        subst this
        rw [dg_l, dg_l]; omega
    · rw [if_neg q]
      have him : i < m := by
        rcases Nat.lt_or_ge i m with z | z
        · exact z
        · have : i = m := by omega
          subst this
          rw [dg_l] at h8
          omega
      obtain ⟨a1, a2, a3⟩ := ih (v / 9) i him (by omega) (by rw [← dg_s him]; exact h8) (fun k k1 k2 => by rw [← dg_s k2]; exact hk k k1 (by omega))
      have d1 : (9 * nx m (v / 9) + nx m (v / 9) % 9) / 9 = nx m (v / 9) := by omega
      have d2 : (9 * nx m (v / 9) + nx m (v / 9) % 9) % 9 = nx m (v / 9) % 9 := by omega
      refine ⟨by omega, fun k hk => ?_, fun k hk1 hk2 => ?_⟩
      · rw [dg_s (by omega), dg_s (by omega), d1]; exact a2 k hk
      · rw [dg_s him]
        rcases Nat.lt_or_ge k m with z | z
        · rw [dg_s z, d1]; exact a3 k hk1 z
        · have : k = m := by omega
          subst this
          rw [dg_l, d2, ← a3 (k - 1) (by omega) (by omega)]
          unfold dg
          rw [show k - 1 - (k - 1) = 0 by omega, Nat.pow_zero, Nat.div_one]
theorem dg_top : ∀ m v, v < 9 ^ m → (∀ k, k < m → dg m v k = 8) → v = 9 ^ m - 1 := by
  intro m
  induction m with
  | zero => intro v hv _; rw [Nat.pow_zero] at hv ⊢; omega
  | succ m ih =>
    intro v hv hk
    have hp : 9 ^ (m + 1) = 9 ^ m * 9 := Nat.pow_succ 9 m
    have := ih (v / 9) (by omega) (fun k k1 => by rw [← dg_s k1]; exact hk k (by omega))
    have h8 := hk m (by omega)
    rw [dg_l] at h8
    have := Nat.pow_pos (n := m) (show 0 < 9 by decide)
    omega
def itN (f : Nat → Nat) : Nat → Nat → Nat
  | 0, x => x
  | k + 1, x => f (itN f k x)
theorem itN_s (f : Nat → Nat) (k x : Nat) : itN f (k + 1) x = f (itN f k x) := rfl
theorem nx_many : ∀ m, m < 6 → 9 ^ m ≤ itN (nx m) 1287 0 := by decide +kernel
