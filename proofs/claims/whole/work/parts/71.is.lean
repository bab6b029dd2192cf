/-! IS: what a person is, by shadows -/
def mvF (n kind ear light : Nat) : Nat := if ear < light then 0 else strd n kind
def fitF (n : Nat) (a : A3) (kind ear : Nat) : Bool := (List.range a.1).all (fun i => decide (mvF n kind ear (a.2.1 i) = a.2.2 i))
def soF (n : Nat) (a : A3) (j : Nat) : Bool := decide (j / 10 ≠ 2) && fitF n a (j / 10) (j % 10)
def cntF (f : Nat → Bool) : Nat → Nat
  | 0 => 0
  | k + 1 => if f k = true then cntF f k + 1 else cntF f k
theorem cntF_s (f : Nat → Bool) (k : Nat) : cntF f (k + 1) = if f k = true then cntF f k + 1 else cntF f k := rfl
theorem cntF_le (f : Nat → Bool) : ∀ k, cntF f k ≤ k := by
  intro k
  induction k with
  | zero => exact Nat.le_refl _
  | succ k ih => rw [cntF_s]; split <;> omega
theorem cntF_mono (f : Nat → Bool) {k m : Nat} (h : k ≤ m) : cntF f k ≤ cntF f m := by
  obtain ⟨j, rfl⟩ : ∃ j, m = k + j := ⟨m - k, by omega⟩
  induction j with
  | zero => exact Nat.le_refl _
  | succ j ih =>
    have := ih (by omega)
    rw [show k + (j + 1) = (k + j) + 1 by omega, cntF_s]
    split <;> omega
theorem cntF_skip (f : Nat → Bool) {k m : Nat} (h : k ≤ m) (hf : ∀ j, k ≤ j → j < m → f j = false) : cntF f m = cntF f k := by
  obtain ⟨j, rfl⟩ : ∃ j, m = k + j := ⟨m - k, by omega⟩
  induction j with
  | zero => rfl
  | succ j ih =>
    rw [show k + (j + 1) = (k + j) + 1 by omega, cntF_s, if_neg (by rw [hf _ (by omega) (by omega)]; decide)]
    exact ih (by omega) (fun i h1 h2 => hf i h1 (by omega))
theorem jF_skip (g : Nat → Bool) {i m d : Nat} (hf : ∀ j, i ≤ j → j < i + d → g j = false) : jF g i (d + m) = jF g (i + d) m := by
  induction d generalizing i with
  | zero => rw [Nat.zero_add, Nat.add_zero]
  | succ d ih =>
    rw [show d + 1 + m = (d + m) + 1 by omega, jF_s, if_neg (by rw [hf i (by omega) (by omega)]; decide), ih (fun j h1 h2 => hf j (by omega) (by omega)), show i + 1 + d = i + (d + 1) by omega]
theorem soF_20 (n : Nat) (a : A3) : ∀ j, 20 ≤ j → j < 30 → soF n a j = false := by
  intro j h1 h2
  have : j / 10 = 2 := by omega
  simp [soF, this]
def maxF (f : Nat → Nat) : Nat → Nat
  | 0 => 0
  | k + 1 => max (maxF f k) (f k)
theorem maxF_ge (f : Nat → Nat) : ∀ n m, m < n → f m ≤ maxF f n := by
  intro n
  induction n with
  | zero => intro m h; omega
  | succ n ih =>
    intro m h
    show _ ≤ max _ _
    by_cases e : m = n
    · subst e; exact Nat.le_max_right _ _
    · exact Nat.le_trans (ih m (by omega)) (Nat.le_max_left _ _)
theorem maxF_le (f : Nat → Nat) (b : Nat) : ∀ n, (∀ m, m < n → f m ≤ b) → maxF f n ≤ b := by
  intro n
  induction n with
  | zero => intro _; exact Nat.zero_le _
  | succ n ih => intro h; exact Nat.max_le.mpr ⟨ih (fun m hm => h m (by omega)), h n (by omega)⟩
theorem maxF_congr {f g : Nat → Nat} {n : Nat} (h : ∀ m, m < n → f m = g m) : maxF f n = maxF g n := Nat.le_antisymm (maxF_le f _ n (fun m hm => by rw [h m hm]; exact maxF_ge g n m hm)) (maxF_le g _ n (fun m hm => by rw [← h m hm]; exact maxF_ge f n m hm))
theorem maxF_up {f : Nat → Nat} {n m0 : Nat} (hm : m0 < n) : maxF (upN f m0 (f m0 + 1)) n = max (maxF f n) (f m0 + 1) := by
  refine Nat.le_antisymm (maxF_le _ _ n (fun m h => ?_)) (Nat.max_le.mpr ⟨maxF_le _ _ n (fun m h => ?_), ?_⟩)
  · by_cases e : m = m0
    · rw [e, upN_s]; exact Nat.le_max_right _ _
    · rw [upN_lt e]; exact Nat.le_trans (maxF_ge f n m h) (Nat.le_max_left _ _)
  · have := maxF_ge (upN f m0 (f m0 + 1)) n m h
    by_cases e : m = m0
    · rw [e, upN_s] at this; rw [e]; omega
    · rwa [upN_lt e] at this
  · have := maxF_ge (upN f m0 (f m0 + 1)) n m0 hm
    rwa [upN_s] at this
/-- the move of a pair at a light; how many that fit go so far -/
def pmF (n j light : Nat) : Nat := mvF n (j / 10) (j % 10) light
def akF (n : Nat) (a : A3) (light m : Nat) : Nat → Nat := cntF (fun j => soF n a j && decide (pmF n j light = m))
def gpF (n : Nat) (a : A3) (light : Nat) : Nat := maxF (fun m => akF n a light m 40) 9
def wtF (gp : Nat → Nat) (all : Nat) : Nat → Int32 × Nat
  | 0 => (-1, all)
  | k + 1 => if gp (k + 1) < (wtF gp all k).2 then (nI (k + 1), gp (k + 1)) else wtF gp all k
theorem wtF_s (gp : Nat → Nat) (all k : Nat) : wtF gp all (k + 1) = if gp (k + 1) < (wtF gp all k).2 then (nI (k + 1), gp (k + 1)) else wtF gp all k := rfl
theorem strd_lt {n k : Nat} (hn : 2 ≤ n) : strd n k < n := strd_le hn
theorem mvF_lt {n kind ear light : Nat} (hn : 2 ≤ n) : mvF n kind ear light < n := by
  unfold mvF
  split
  · omega
  · exact strd_le hn
section IsC
variable {κ : gK} {M : MM} {Q : Int32 → MM → Prop} {t : TW} {a : A3}
theorem s_moveOf {kind ear light : Nat} (hT : Tw M 1 t) (ht : twOk t) (hk : kind < 2 ^ 31) (he : ear < 2 ^ 31) (hl : light < 2 ^ 31) (h : Q (nI (mvF t.1 kind ear light)) M) : Cl κ mX6_moveOf [.ref 105, .ref 1, .int (nI kind), .int (nI ear), .int (nI light)] M Q := by
  refine eX6_moveOf 1 _ _ _ (bX6_moveOf_0 1 twO_1 _ _ _ ⟨fun c => bX6_moveOf_15 1 twO_1 _ ?_, fun c => s_strideOf twO_1 hT ht hk (bX6_moveOf_15 1 twO_1 _ ?_)⟩)
  · have := (nI_ltI he hl).mp c
    unfold mvF at h
    rw [if_pos this] at h
    exact h
  · have : ¬ ear < light := fun e => c (nI_lt e hl)
    unfold mvF at h
    rw [if_neg this] at h
    exact h
theorem s_fits {kind ear : Nat} (hT : Tw M 1 t) (ht : twOk t) (hn : 2 ≤ t.1) (hS : ShC M a) (hc : a.1 ≤ 6) (hb : ∀ i, i < a.1 → 1 ≤ a.2.1 i ∧ a.2.1 i ≤ 9 ∧ a.2.2 i < t.1) (hk : kind < 2 ^ 31) (he : ear < 2 ^ 31) (h1 : fitF t.1 a kind ear = true → Q 1 M) (h0 : fitF t.1 a kind ear = false → Q 0 M) : Cl κ mX6_fits [.ref 105, .ref 1, .int (nI kind), .int (nI ear)] M Q := by
  have h9 := ht.n9
  refine eX6_fits 1 _ _ (bX6_fits_0 1 twO_1 _ _ ?_)
  refine up_ind a.1 (fun k => (∀ i, i < k → mvF t.1 kind ear (a.2.1 i) = a.2.2 i) → G κ mX6_fits 3 [.ref 105, .ref 1, .int (nI kind), .int (nI ear), .int (nI k)] [] M Q) ?_ ?_ 0 (Nat.zero_le _) (fun i hi => absurd hi (by omega))
  · intro e
    refine bX6_fits_3 1 twO_1 _ _ _ ⟨fun _ => h1 ?_, fun c => absurd (by rw [hS.1]; exact Int32.le_refl _) c⟩
    unfold fitF
    rw [List.all_eq_true]
    intro i hi
    simp [e i (List.mem_range.mp hi)]
  · intro k hk2 ih e
    have b := hb k hk2
    refine bX6_fits_3 1 twO_1 _ _ _ ⟨fun c => ?_, fun _ => ⟨vp_in_nI (by omega) (by decide), ?_⟩⟩
    · rw [hS.1] at c; exact absurd c (nI_ge hk2 (by omega))
    rw [tNI (by omega), (hS.2 k hk2).1]
    refine s_moveOf hT ht hk he (by omega) ?_
    rw [(hS.2 k hk2).2]
    have hm := mvF_lt (kind := kind) (ear := ear) (light := a.2.1 k) hn
    refine ⟨fun c => ?_, fun c => h0 ?_⟩
    · rw [nI_1]
      refine ih (fun i hi => ?_)
      by_cases q : i = k
      · subst q; exact nI_inj (by omega) (by omega) c
      · exact e i (by omega)
    · cases hf : fitF t.1 a kind ear with
      | false => rfl
      | true =>
        unfold fitF at hf
        have := List.all_eq_true.mp hf k (List.mem_range.mpr hk2)
        simp only [decide_eq_true_eq] at this
        exact absurd (by rw [this]) c
/-- the three kinds by their places, and the pairs that they begin -/
def kdL (i : Nat) : Nat := if i = 2 then 3 else i
theorem kd_get {i : Nat} (hi : i < 3) : (([0, 1, 3] : List Int32).getD (nI i).toNatClampNeg 0) = nI (kdL i) := by
  rw [tNI (by omega)]
  match i, hi with
  | 0, _ => rfl
  | 1, _ => rfl
  | 2, _ => rfl
theorem so_pair {n : Nat} {i e : Nat} (hi : i < 3) (he : e < 10) : soF n a (10 * kdL i + e) = fitF n a (kdL i) e := by
  have h1 : (10 * kdL i + e) / 10 = kdL i := by omega
  have h2 : (10 * kdL i + e) % 10 = e := by omega
  have h3 : kdL i ≠ 2 := by unfold kdL; split <;> omega
  unfold soF
  rw [h1, h2]
  simp [h3]
theorem cnt_next {n : Nat} {i : Nat} (hi : i < 3) : cntF (soF n a) (10 * kdL i + 10) = cntF (soF n a) (if i + 1 = 3 then 40 else 10 * kdL (i + 1)) := by
  match i, hi with
  | 0, _ => rfl
  | 1, _ => exact (cntF_skip (soF n a) (k := 20) (m := 30) (by decide) (soF_20 n a)).symm
  | 2, _ => rfl
theorem s_howManyFit (hT : Tw M 1 t) (ht : twOk t) (hn : 2 ≤ t.1) (hS : ShC M a) (hc : a.1 ≤ 6) (hb : ∀ i, i < a.1 → 1 ≤ a.2.1 i ∧ a.2.1 i ≤ 9 ∧ a.2.2 i < t.1) (h : Q (nI (cntF (soF t.1 a) 40)) M) : Cl κ mX6_howManyFit [.ref 105, .ref 1] M Q := by
  refine eX6_howManyFit 1 (bX6_howManyFit_0 1 twO_1 ?_)
  refine up_ind 3 (fun i => G κ mX6_howManyFit 13 [.ref 105, .ref 1, .int (nI (cntF (soF t.1 a) (if i = 3 then 40 else 10 * kdL i))), .ref 999, .int 3, .int (nI i), .null, .null] [] M Q) ?_ ?_ 0 (by decide)
  · exact bX6_howManyFit_13 1 twO_1 _ _ _ ⟨fun _ => h, fun c => absurd (by decide) c⟩
  · intro i hi ih
    refine bX6_howManyFit_13 1 twO_1 _ _ _ ⟨fun c => absurd c (nI_ge (b := 3) hi (by decide)), fun _ => ⟨vp_in_nI hi (by decide), ?_⟩⟩
    rintro v1 rfl
    rw [kd_get hi, if_neg (by omega)]
    have hkd : kdL i < 2 ^ 31 := by unfold kdL; split <;> omega
    refine up_ind 10 (fun e => G κ mX6_howManyFit 29 [.ref 105, .ref 1, .int (nI (cntF (soF t.1 a) (10 * kdL i + e))), .ref 999, .int 3, .int (nI i), .int (nI (kdL i)), .int (nI e)] [] M Q) ?_ ?_ 0 (by decide)
    · refine bX6_howManyFit_29 1 twO_1 _ _ _ _ _ ⟨fun _ => ?_, fun c => absurd (by decide) c⟩
      rw [cnt_next hi, nI_1]; exact ih
    · intro e he ih2
      refine bX6_howManyFit_29 1 twO_1 _ _ _ _ _ ⟨fun c => ?_, fun _ => s_fits hT ht hn hS hc hb hkd (by omega) (fun hf => b1 (bX6_howManyFit_54 1 twO_1 _ _ _ _ _ _ ?_)) (fun hf => b0 (bX6_howManyFit_54 1 twO_1 _ _ _ _ _ _ ?_))⟩
      · have := (nI_ltI (a := 9) (by decide) (by omega)).mp c
        omega
      · have ih2 : G κ mX6_howManyFit 29 [.ref 105, .ref 1, .int (nI (cntF (soF t.1 a) ((10 * kdL i + e) + 1))), .ref 999, .int 3, .int (nI i), .int (nI (kdL i)), .int (nI (e + 1))] [] M Q := ih2
        rw [cntF_s, so_pair hi he, if_pos hf] at ih2
        rw [nI_1, nI_1]; exact ih2
      · have ih2 : G κ mX6_howManyFit 29 [.ref 105, .ref 1, .int (nI (cntF (soF t.1 a) ((10 * kdL i + e) + 1))), .ref 999, .int 3, .int (nI i), .int (nI (kdL i)), .int (nI (e + 1))] [] M Q := ih2
        rw [cntF_s, so_pair hi he, if_neg (by rw [hf]; decide)] at ih2
        rw [nI_1, show (0 : Int32) = nI 0 from rfl, nI_add, Nat.add_zero]; exact ih2
theorem jF_next {n : Nat} {i : Nat} (hi : i < 3) : jF (soF n a) (10 * kdL i + 10) (40 - (10 * kdL i + 10)) = jF (soF n a) (if i + 1 = 3 then 40 else 10 * kdL (i + 1)) (40 - (if i + 1 = 3 then 40 else 10 * kdL (i + 1))) := by
  match i, hi with
  | 0, _ => rfl
  | 1, _ => exact jF_skip (soF n a) (i := 20) (d := 10) (m := 10) (soF_20 n a)
  | 2, _ => rfl
theorem s_firstFit (hT : Tw M 1 t) (ht : twOk t) (hn : 2 ≤ t.1) (hS : ShC M a) (hc : a.1 ≤ 6) (hb : ∀ i, i < a.1 → 1 ≤ a.2.1 i ∧ a.2.1 i ≤ 9 ∧ a.2.2 i < t.1) (h : Q (jF (soF t.1 a) 0 40) M) : Cl κ mX6_firstFit [.ref 105, .ref 1] M Q := by
  refine eX6_firstFit 1 (bX6_firstFit_0 1 twO_1 ?_)
  refine up_ind 3 (fun i => jF (soF t.1 a) (if i = 3 then 40 else 10 * kdL i) (40 - (if i = 3 then 40 else 10 * kdL i)) = jF (soF t.1 a) 0 40 → G κ mX6_firstFit 10 [.ref 105, .ref 1, .ref 999, .int 3, .int (nI i), .null, .null] [] M Q) ?_ ?_ 0 (by decide) rfl
  · intro e
    refine bX6_firstFit_10 1 twO_1 _ _ ⟨fun _ => ?_, fun c => absurd (by decide) c⟩
    have e : (-1 : Int32) = jF (soF t.1 a) 0 40 := e
    rw [e]; exact h
  · intro i hi ih e
    rw [if_neg (by omega)] at e
    refine bX6_firstFit_10 1 twO_1 _ _ ⟨fun c => absurd c (nI_ge (b := 3) hi (by decide)), fun _ => ⟨vp_in_nI hi (by decide), ?_⟩⟩
    rintro v1 rfl
    rw [kd_get hi]
    have hkd : kdL i ≤ 3 := by unfold kdL; split <;> omega
    refine up_ind 10 (fun f => jF (soF t.1 a) (10 * kdL i + f) (40 - (10 * kdL i + f)) = jF (soF t.1 a) 0 40 → G κ mX6_firstFit 25 [.ref 105, .ref 1, .ref 999, .int 3, .int (nI i), .int (nI (kdL i)), .int (nI f)] [] M Q) ?_ ?_ 0 (by decide) e
    · intro e2
      refine bX6_firstFit_25 1 twO_1 _ _ _ _ ⟨fun _ => ?_, fun c => absurd (by decide) c⟩
      rw [nI_1]
      exact ih (by rw [← e2]; exact (jF_next hi).symm)
    · intro f hf ih2 e2
      rw [show 40 - (10 * kdL i + f) = (40 - (10 * kdL i + (f + 1))) + 1 by omega, jF_s, so_pair hi hf] at e2
      refine bX6_firstFit_25 1 twO_1 _ _ _ _ ⟨fun c => ?_, fun _ => s_fits hT ht hn hS hc hb (by omega) (by omega) (fun hq => b1 ?_) (fun hq => b0 ?_)⟩
      · have := (nI_ltI (a := 9) (by decide) (by omega)).mp c
        omega
      · rw [if_pos hq] at e2
        rw [show (10 : Int32) = nI 10 from rfl, pk_mul, nI_add, e2]; exact h
      · rw [if_neg (by rw [hq]; decide)] at e2
        rw [nI_1]; exact ih2 e2
end IsC
