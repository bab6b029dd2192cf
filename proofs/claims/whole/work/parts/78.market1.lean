/-! THE MARKET: from a layer on, with a set of persons still free, how many layers can have a keeper at most -/
def bF (c : Nat → Bool) (v : Nat → Nat) (b : Nat) : Nat → Nat
  | 0 => b
  | k + 1 => if c k = true then max (bF c v b k) (v k) else bF c v b k
theorem bF_s (c : Nat → Bool) (v : Nat → Nat) (b k : Nat) : bF c v b (k + 1) = if c k = true then max (bF c v b k) (v k) else bF c v b k := rfl
theorem bF_le {c : Nat → Bool} {v : Nat → Nat} {b m : Nat} (hb : b ≤ m) (hv : ∀ p, v p ≤ m) : ∀ k, bF c v b k ≤ m := by
  intro k
  induction k with
  | zero => exact hb
  | succ k ih =>
    rw [bF_s]
    split
    · exact Nat.max_le.mpr ⟨ih, hv k⟩
    · exact ih
theorem bF_no {c : Nat → Bool} {v : Nat → Nat} {b k m : Nat} (h : k ≤ m) (hc : ∀ p, k ≤ p → c p = false) : bF c v b m = bF c v b k := by
  obtain ⟨j, rfl⟩ : ∃ j, m = k + j := ⟨m - k, by omega⟩
  induction j with
  | zero => rfl
  | succ j ih =>
    rw [show k + (j + 1) = (k + j) + 1 by omega, bF_s, if_neg (by rw [hc _ (by omega)]; decide)]
    exact ih (by omega)
def gF (la : Nat → Nat) : Nat → Nat → Nat → Nat
  | 0, _, _ => 0
  | d + 1, x, S => bF (fun p => S.testBit p && (la p).testBit x) (fun p => 1 + gF la d (x + 1) (S ^^^ 2 ^ p)) (gF la d (x + 1) S) 8
theorem gF_s (la : Nat → Nat) (d x S : Nat) : gF la (d + 1) x S = bF (fun p => S.testBit p && (la p).testBit x) (fun p => 1 + gF la d (x + 1) (S ^^^ 2 ^ p)) (gF la d (x + 1) S) 8 := rfl
theorem gF_le (la : Nat → Nat) : ∀ d x S, gF la d x S ≤ d := by
  intro d
  induction d with
  | zero => intro x S; exact Nat.le_refl _
  | succ d ih =>
    intro x S
    rw [gF_s]
    refine bF_le (Nat.le_trans (ih _ _) (Nat.le_succ d)) (fun p => ?_) 8
    have := ih (x + 1) (S ^^^ 2 ^ p)
    omega
theorem gF_z {la : Nat → Nat} {n : Nat} (hla : ∀ p, la p < 2 ^ n) : ∀ d x S, n ≤ x → gF la d x S = 0 := by
  intro d
  induction d with
  | zero => intro x S _; rfl
  | succ d ih =>
    intro x S hx
    rw [gF_s, bF_no (k := 0) (Nat.zero_le _) (fun p _ => by rw [Nat.testBit_lt_two_pow (Nat.lt_of_lt_of_le (hla p) (Nat.pow_le_pow_right (by decide) hx)), Bool.and_false])]
    exact ih (x + 1) S (by omega)
def gN (la : Nat → Nat) (x S : Nat) : Nat := gF la (9 - x) x S
theorem gN_le (la : Nat → Nat) (x S : Nat) : gN la x S ≤ 9 := Nat.le_trans (gF_le la _ x S) (by omega)
theorem gN_s (la : Nat → Nat) {x : Nat} (S : Nat) (hx : x < 9) : gN la x S = bF (fun p => S.testBit p && (la p).testBit x) (fun p => 1 + gN la (x + 1) (S ^^^ 2 ^ p)) (gN la (x + 1) S) 8 := by
  unfold gN
  rw [show 9 - x = (9 - (x + 1)) + 1 by omega, gF_s]
theorem gN_9 (la : Nat → Nat) (S : Nat) : gN la 9 S = 0 := rfl
def gcn (la : Nat → Nat) (x S : Nat) (p : Nat) : Bool := (S.testBit p && (la p).testBit x) && decide (1 + gN la (x + 1) (S ^^^ 2 ^ p) = gN la x S)
def nxS (la : Nat → Nat) (x S : Nat) : Nat := if jF (gcn la x S) 0 8 = -1 then S else S ^^^ 2 ^ (jF (gcn la x S) 0 8).toNatClampNeg
def frS (la : Nat → Nat) (P : Nat) : Nat → Nat
  | 0 => 2 ^ P - 1
  | x + 1 => nxS la x (frS la P x)
theorem frS_s (la : Nat → Nat) (P x : Nat) : frS la P (x + 1) = nxS la x (frS la P x) := rfl
theorem jF_or (g : Nat → Bool) : ∀ m i, jF g i m = -1 ∨ ∃ p, i ≤ p ∧ p < i + m ∧ jF g i m = nI p ∧ g p = true := by
  intro m
  induction m with
  | zero => intro i; exact .inl rfl
  | succ m ih =>
    intro i
    rw [jF_s]
    by_cases h : g i = true
    · rw [if_pos h]; exact .inr ⟨i, by omega, by omega, rfl, h⟩
    · rw [if_neg h]
      rcases ih (i + 1) with q | ⟨p, p1, p2, p3, p4⟩
      · exact .inl q
      · exact .inr ⟨p, by omega, by omega, p3, p4⟩
theorem nxS_no {la : Nat → Nat} {x S : Nat} (h : jF (gcn la x S) 0 8 = -1) : nxS la x S = S := if_pos h
theorem nI_m1 {p : Nat} (h : p < 2 ^ 31) : nI p ≠ -1 := fun q => nI_pos h (by rw [q]; decide)
theorem nxS_yes {la : Nat → Nat} {x S p : Nat} (hp : p < 2 ^ 31) (h : jF (gcn la x S) 0 8 = nI p) : nxS la x S = S ^^^ 2 ^ p := by
  unfold nxS
  rw [h, if_neg (nI_m1 hp), tNI hp]
section Market1
variable {κ : gK} {M : MM} {Q : Int32 → MM → Prop} {t : TW} {s : ST} {la : Nat → Nat} {P : Nat}
theorem mk_pT : ∀ p, p < 8 → ∀ T, T < 256 → (nI (2 ^ p) &&& (nI T ^^^ (-1)) = 0 ↔ T.testBit p = true) := by decide +kernel
theorem mk_and {w p T : Nat} (hp : p < 8) (hT : T < 256) : ((nI w &&& jshl 1 (nI p)) &&& (nI T ^^^ (-1))) = 0 ↔ (w.testBit p && !T.testBit p) = false := by
  rw [one_shl (by omega), nI_and]
  cases h : w.testBit p with
  | false =>
    have e : w &&& 2 ^ p = 0 := by
      refine Nat.eq_of_testBit_eq (fun i => ?_)
      rw [Nat.testBit_and, Nat.testBit_two_pow, Nat.zero_testBit]
      by_cases q : p = i
      · subst q; rw [h]; rfl
      · rw [decide_eq_false q, Bool.and_false]
    rw [e, Bool.false_and]
    exact ⟨fun _ => rfl, fun _ => by rw [nI_0, Int32.zero_and]⟩
  | true =>
    have e : w &&& 2 ^ p = 2 ^ p := by
      refine Nat.eq_of_testBit_eq (fun i => ?_)
      rw [Nat.testBit_and, Nat.testBit_two_pow]
      by_cases q : p = i
      · subst q; rw [h]; rfl
      · rw [decide_eq_false q, Bool.and_false]
    rw [e, mk_pT p hp T hT, Bool.true_and]
    cases T.testBit p <;> simp
theorem cnd_eq {x p T : Nat} (hp : p < 8) (h0 : ∀ p, P ≤ p → la p = 0) : ((whoF la (2 ^ x)).testBit p && !T.testBit p) = (((2 ^ P - 1) ^^^ T).testBit p && (la p).testBit x) := by
  rw [whoF_bit, bits_tb, decide_eq_true hp, Bool.true_and, Nat.testBit_xor, all_tb]
  cases h : (la p).testBit x with
  | false => rw [Bool.false_and, Bool.and_false]
  | true =>
    have : p < P := by
      rcases Nat.lt_or_ge p P with q | q
      · exact q
      · rw [h0 p q, Nat.zero_testBit] at h; cases h
    rw [decide_eq_true this]
    cases T.testBit p <;> rfl
theorem free_next {T p : Nat} (h : T.testBit p = false) : (2 ^ P - 1) ^^^ (T ||| 2 ^ p) = ((2 ^ P - 1) ^^^ T) ^^^ 2 ^ p := by
  refine Nat.eq_of_testBit_eq (fun i => ?_)
  rw [Nat.testBit_xor, Nat.testBit_xor, Nat.testBit_xor, Nat.testBit_or, Nat.testBit_two_pow]
  by_cases e : p = i
  · subst e
    rw [h, decide_eq_true rfl]
    cases (2 ^ P - 1).testBit p <;> rfl
  · rw [decide_eq_false e, Bool.or_false, Bool.xor_false]
theorem cnd_p {S p T x : Nat} (hS : S = (2 ^ P - 1) ^^^ T) (hT : T < 2 ^ P) (h : (S.testBit p && (la p).testBit x) = true) : p < P ∧ T.testBit p = false ∧ T ||| 2 ^ p < 2 ^ P := by
  rw [Bool.and_eq_true, hS, Nat.testBit_xor, all_tb] at h
  have hp : p < P := by
    rcases Nat.lt_or_ge p P with q | q
    · exact q
    · rw [decide_eq_false (by omega), Nat.testBit_lt_two_pow (Nat.lt_of_lt_of_le hT (Nat.pow_le_pow_right (by decide) q))] at h
      exact absurd h.1 (by decide)
  refine ⟨hp, ?_, or_lt hT (Nat.pow_lt_pow_right (by decide) hp)⟩
  rw [decide_eq_true hp] at h
  cases e : T.testBit p with
  | false => rfl
  | true => rw [e] at h; exact absurd h.1 (by decide)
def RowC (la : Nat → Nat) (P : Nat) (M : MM) (x : Nat) : Prop := ∀ T, T < 2 ^ P → M 103 (x * 256 + T) = nI (gN la x ((2 ^ P - 1) ^^^ T))
theorem s_mostBehind {x T : Nat} (hP : P ≤ 8) (hx : x ≤ 8) (hT : T < 2 ^ P) (hR : RowC la P M (x + 1)) (h : Q (nI (gN la (x + 1) ((2 ^ P - 1) ^^^ T))) M) : Cl κ mX7_mostBehind [.ref 102, .int (nI x), .int (nI T)] M Q := by
  have hp : 2 ^ P ≤ 256 := Nat.pow_le_pow_right (n := 2) (j := 8) (by decide) hP
  refine eX7_mostBehind _ _ (bX7_mostBehind_0 _ _ ?_)
  rw [nI_1, show (256 : Int32) = nI 256 from rfl, pk_mul, nI_add, tNI (by omega), hR T hT]
  exact ⟨vp_in_nI (by omega) (by decide), h⟩
theorem s_mostFrom {x T : Nat} (hP : P ≤ 8) (hx : x ≤ 8) (hT : T < 2 ^ P) (h0 : ∀ p, P ≤ p → la p = 0) (hR : RowC la P M (x + 1)) (h : Q (nI (gN la x ((2 ^ P - 1) ^^^ T))) M) : Cl κ mX7_mostFrom [.ref 102, .int (nI x), .int (nI (whoF la (2 ^ x))), .int (nI T)] M Q := by
  have hp : 2 ^ P ≤ 256 := Nat.pow_le_pow_right (n := 2) (j := 8) (by decide) hP
  refine eX7_mostFrom _ _ _ (bX7_mostFrom_0 _ _ _ (s_mostBehind hP hx hT hR ?_))
  rw [gN_s la _ (by omega)] at h
  generalize hS : (2 ^ P - 1) ^^^ T = S at *
  have hbd : ∀ k, bF (fun p => S.testBit p && (la p).testBit x) (fun p => 1 + gN la (x + 1) (S ^^^ 2 ^ p)) (gN la (x + 1) S) k ≤ 10 := bF_le (Nat.le_trans (gN_le la _ _) (by decide)) (fun p => by have := gN_le la (x + 1) (S ^^^ 2 ^ p); omega)
  refine up_ind 8 (fun k => G κ mX7_mostFrom 11 [.ref 102, .int (nI x), .int (nI (whoF la (2 ^ x))), .int (nI T), .int (nI (bF (fun p => S.testBit p && (la p).testBit x) (fun p => 1 + gN la (x + 1) (S ^^^ 2 ^ p)) (gN la (x + 1) S) k)), .int (nI k), .null] [] M Q) ?_ ?_ 0 (by decide)
  · exact bX7_mostFrom_11 _ _ _ _ _ ⟨fun _ => h, fun c => absurd (by decide) c⟩
  · intro k hk ih
    rw [bF_s] at ih
    refine bX7_mostFrom_11 _ _ _ _ _ ⟨fun c => absurd c (nI_ge (b := 8) hk (by decide)), fun _ => ⟨fun c => bX7_mostFrom_53 _ _ _ _ _ ?_, fun c => ?_⟩⟩
    · rw [mk_and hk (by omega), cnd_eq hk h0, hS] at c
      rw [if_neg (by rw [c]; decide)] at ih
      rw [nI_1]; exact ih
    · rw [mk_and hk (by omega), cnd_eq hk h0, hS] at c
      have c : (S.testBit k && (la k).testBit x) = true := by
        cases q : (S.testBit k && (la k).testBit x) with
        | true => rfl
        | false => exact absurd q c
      obtain ⟨q1, q2, q3⟩ := cnd_p hS.symm hT c
      rw [if_pos c] at ih
      rw [one_shl (by omega), nI_or]
      refine s_mostBehind hP hx q3 hR ?_
      rw [free_next q2, hS]
      rintro v2 e2
      have hg := gN_le la (x + 1) (S ^^^ 2 ^ k)
      rw [show (1 : Int32) = nI 1 from rfl, nI_add, jmax_nI (by have := hbd k; omega) (by omega)] at e2
      subst e2
      refine bX7_mostFrom_53 _ _ _ _ _ ?_
      rw [nI_1]; exact ih
theorem s_keeperFor {x T : Nat} (hP : P ≤ 8) (hx : x ≤ 8) (hT : T < 2 ^ P) (h0 : ∀ p, P ≤ p → la p = 0) (hR : RowC la P M (x + 1)) (hR0 : RowC la P M x) (h : Q (jF (gcn la x ((2 ^ P - 1) ^^^ T)) 0 8) M) : Cl κ mX7_keeperFor [.ref 102, .int (nI x), .int (nI (whoF la (2 ^ x))), .int (nI T)] M Q := by
  have hp : 2 ^ P ≤ 256 := Nat.pow_le_pow_right (n := 2) (j := 8) (by decide) hP
  refine eX7_keeperFor _ _ _ (bX7_keeperFor_0 _ _ _ ?_)
  have hrow := hR0 T hT
  generalize hS : (2 ^ P - 1) ^^^ T = S at *
  refine up_ind 8 (fun k => jF (gcn la x S) k (8 - k) = jF (gcn la x S) 0 8 → G κ mX7_keeperFor 3 [.ref 102, .int (nI x), .int (nI (whoF la (2 ^ x))), .int (nI T), .int (nI k), .null] [] M Q) ?_ ?_ 0 (by decide) rfl
  · intro e
    refine bX7_keeperFor_3 _ _ _ _ ⟨fun _ => ?_, fun c => absurd (by decide) c⟩
    have e : (-1 : Int32) = jF (gcn la x S) 0 8 := e
    rw [e]; exact h
  · intro k hk ih e
    rw [show 8 - k = (8 - (k + 1)) + 1 by omega, jF_s] at e
    refine bX7_keeperFor_3 _ _ _ _ ⟨fun c => absurd c (nI_ge (b := 8) hk (by decide)), fun _ => ⟨fun c => bX7_keeperFor_56 _ _ _ _ ?_, fun c => ?_⟩⟩
    · rw [mk_and hk (by omega), cnd_eq hk h0, hS] at c
      rw [if_neg (by unfold gcn; rw [c]; simp)] at e
      rw [nI_1]; exact ih e
    · rw [mk_and hk (by omega), cnd_eq hk h0, hS] at c
      have c : (S.testBit k && (la k).testBit x) = true := by
        cases q : (S.testBit k && (la k).testBit x) with
        | true => rfl
        | false => exact absurd q c
      obtain ⟨q1, q2, q3⟩ := cnd_p hS.symm hT c
      rw [one_shl (by omega), nI_or]
      refine s_mostBehind hP hx q3 hR ?_
      rw [free_next q2, hS]
      have hg := gN_le la (x + 1) (S ^^^ 2 ^ k)
      have hg2 := gN_le la x S
      rw [show (1 : Int32) = nI 1 from rfl, nI_add, show (256 : Int32) = nI 256 from rfl, pk_mul, nI_add, tNI (by omega), hrow]
      refine ⟨vp_in_nI (by omega) (by decide), fun z => ?_, fun z => bX7_keeperFor_56 _ _ _ _ ?_⟩
      · have z := nI_inj (by omega) (by omega) z
        rw [if_pos (by unfold gcn; rw [c, decide_eq_true z]; rfl)] at e
        rw [e]; exact h
      · rw [if_neg (by
          unfold gcn
          rw [c, Bool.true_and, decide_eq_true_eq]
          exact fun y => z (by rw [y]))] at e
        show G κ mX7_keeperFor 3 [.ref 102, .int (nI x), .int (nI (whoF la (2 ^ x))), .int (nI T), .int (nI k + 1), .null] [] M Q
        rw [nI_1]; exact ih e
theorem s_chooseKeepers {o : Nat} (hsto : stO o) (hS : Sv M o s) (hb : ∀ p, s.2.2.1 p < 512) (hof : o + 3 < 103 ∨ 105 ≤ o) (hP : P ≤ 8) (h0 : ∀ p, P ≤ p → s.2.2.1 p = 0) (hR : ∀ x, x ≤ 9 → RowC s.2.2.1 P M x) (h : ∀ M', fr 104 105 M M' → (∀ x, x < 9 → M' 104 x = jF (gcn s.2.2.1 x (frS s.2.2.1 P x)) 0 8) → Q 0 M') : Cl κ mX7_chooseKeepers [.ref 102, .ref o] M Q := by
  have hp : 2 ^ P ≤ 256 := Nat.pow_le_pow_right (n := 2) (j := 8) (by decide) hP
  refine eX7_chooseKeepers o (bX7_chooseKeepers_0 o hsto ?_)
  refine up_ind 9 (fun x => ∀ T M', T < 2 ^ P → (2 ^ P - 1) ^^^ T = frS s.2.2.1 P x → fr 104 105 M M' → (∀ y, y < x → M' 104 y = jF (gcn s.2.2.1 y (frS s.2.2.1 P y)) 0 8) → G κ mX7_chooseKeepers 4 [.ref 102, .ref o, .int (nI T), .int (nI x)] [] M' Q) ?_ ?_ 0 (by decide) 0 M (Nat.two_pow_pos P) (by rw [Nat.xor_zero]; rfl) fr.rf (fun y hy => absurd hy (by omega))
  · intro T M' _ _ f' hk
    exact bX7_chooseKeepers_4 o hsto _ _ ⟨fun _ => h M' f' hk, fun c => absurd (by decide) c⟩
  · intro x hx ih T M' hT hTS f' hk
    refine bX7_chooseKeepers_4 o hsto _ _ ⟨fun c => absurd c (nI_ge (b := 9) hx (by decide)), fun _ => ?_⟩
    rw [one_shl (by omega)]
    have R' : ∀ y, y ≤ 9 → RowC s.2.2.1 P M' y := fun y hy T hT => by rw [f' 103 (by omega)]; exact hR y hy T hT
    refine s_whoIsOn hsto (hS.fr f' (by omega)) hb (s_keeperFor hP (by omega) hT h0 (R' _ (by omega)) (R' _ (by omega)) ?_)
    rw [hTS]
    refine ⟨vp_in_nI hx (by decide), ?_⟩
    rw [tNI (by omega)]
    rintro M3 e3
    have k3 : ∀ y, y < x + 1 → M3 104 y = jF (gcn s.2.2.1 y (frS s.2.2.1 P y)) 0 8 := by
      intro y hy
      by_cases z : y = x
      · rw [z, e3, pt_s]
      · rw [e3, pt_k _ _ z]; exact hk y (by omega)
    have f3 : fr 104 105 M M3 := by rw [e3]; exact f'.pt (by omega) (by omega)
    rw [k3 x (by omega)]
    rcases jF_or (gcn s.2.2.1 x (frS s.2.2.1 P x)) 8 0 with q | ⟨p, p1, p2, p3, p4⟩
    · refine ⟨fun _ => bX7_chooseKeepers_50 o hsto _ _ ?_, fun z => absurd q z⟩
      rw [nI_1]
      exact ih T M3 hT (by rw [frS_s, nxS_no q]; exact hTS) f3 k3
    · refine ⟨fun z => absurd (p3.symm.trans z) (nI_m1 (by omega)), fun _ => ?_⟩
      rw [p3, one_shl (by omega), nI_or]
      rintro v4 rfl
      unfold gcn at p4
      rw [Bool.and_eq_true] at p4
      obtain ⟨q1, q2, q3⟩ := cnd_p hTS.symm hT p4.1
      refine bX7_chooseKeepers_50 o hsto _ _ ?_
      rw [nI_1]
      exact ih (T ||| 2 ^ p) M3 q3 (by rw [frS_s, nxS_yes (by omega) p3, free_next q2, hTS]) f3 k3
theorem s_share {o : Nat} (hsto : stO o) (hS : Sv M o s) (ht : twOk t) (hs : stOk t s) (hof : o + 3 < 103 ∨ 105 ≤ o) (hz : StC M) (h : ∀ M', fr 103 105 M M' → StC M' → (∀ x, x < 9 → M' 104 x = jF (gcn s.2.2.1 x (frS s.2.2.1 t.2.2.1 x)) 0 8) → Q (nI (gN s.2.2.1 0 (2 ^ t.2.2.1 - 1))) M') : Cl κ mX7_share [.ref 102, .ref o] M Q := by
  have hP := ht.2.1
  have hb := hs.b512 ht
  have h0 := hs.2.2.2.2.1
  have hp : 2 ^ t.2.2.1 ≤ 256 := Nat.pow_le_pow_right (n := 2) (j := 8) (by decide) hP
  have hp0 := Nat.two_pow_pos t.2.2.1
  refine eX7_share o (bX7_share_0 o hsto (s_everybody hsto hS hb ?_))
  rw [whoF_all ht hs]
  generalize hPP : t.2.2.1 = P at *
  have key : ∀ m, m ≤ 9 → ∀ M', fr 103 105 M M' → StC M' → (∀ x, m ≤ x → x ≤ 9 → RowC s.2.2.1 P M' x) → G κ mX7_share 8 [.ref 102, .ref o, .int (nI (2 ^ P - 1)), .int (nI m + -1), .null, .null] [] M' Q := by
    intro m
    induction m with
    | zero =>
      intro _ M' f' z' R'
      refine bX7_share_8 o hsto _ _ ⟨fun _ => s_chooseKeepers (P := P) hsto (hS.fr f' (by omega)) hb (by omega) hP h0 (fun x hx => R' x (Nat.zero_le _) hx) (fun M1 f1 k1 => ?_), fun c => absurd (by decide) c⟩
      have e := R' 0 (Nat.le_refl _) (by decide) 0 hp0
      rw [Nat.xor_zero] at e
      rw [f1 103 (by omega), show M' 103 0 = _ from e]
      exact h M1 (f'.tr (f1.up (by omega) (by omega))) (by unfold StC; rw [f1 103 (by omega)]; exact z') k1
    | succ m ih =>
      intro hm M' f' z' R'
      rw [pk_m1]
      refine bX7_share_8 o hsto _ _ ⟨fun c => absurd c (nI_pos (by omega)), fun _ => ?_⟩
      rw [one_shl (by omega)]
      refine s_whoIsOn hsto (hS.fr f' (by omega)) hb ?_
      refine up_ind (2 ^ P) (fun T => ∀ M', fr 103 105 M M' → StC M' → (∀ x, m + 1 ≤ x → x ≤ 9 → RowC s.2.2.1 P M' x) → (∀ U, U < T → M' 103 (m * 256 + U) = nI (gN s.2.2.1 m ((2 ^ P - 1) ^^^ U))) → G κ mX7_share 24 [.ref 102, .ref o, .int (nI (2 ^ P - 1)), .int (nI m), .int (nI (whoF s.2.2.1 (2 ^ m))), .int (nI T)] [] M' Q) ?_ ?_ 0 (Nat.zero_le _) M' f' z' R' (fun U hU => absurd hU (by omega))
      · intro M1 f1 z1 R1 T1
        refine bX7_share_24 o hsto _ _ _ _ ⟨fun _ => ih (by omega) M1 f1 z1 (fun x hx1 hx2 => ?_), fun c => absurd (nI_lt (by omega) (by omega)) c⟩
        by_cases z : x = m
        · subst z; exact T1
        · exact R1 x (by omega) hx2
      · intro T hT ih2 M1 f1 z1 R1 T1
        refine bX7_share_24 o hsto _ _ _ _ ⟨fun c => absurd c (nI_nlt (by omega) (by omega)), fun _ => s_mostFrom hP (by omega) hT h0 (R1 (m + 1) (Nat.le_refl _) hm) ?_⟩
        rw [show (256 : Int32) = nI 256 from rfl, pk_mul, nI_add, tNI (by omega)]
        refine ⟨vp_in_nI (by omega) (by decide), ?_⟩
        rintro M2 e2
        rw [nI_1]
        refine ih2 M2 (by rw [e2]; exact f1.pt (by omega) (by omega)) ?_ ?_ ?_
        · intro k k1 k2
          rw [e2, pt_k _ _ (by omega)]; exact z1 k k1 k2
        · intro x hx1 hx2 U hU
          rw [e2, pt_k _ _ (by omega)]; exact R1 x hx1 hx2 U hU
        · intro U hU
          by_cases z : U = T
          · rw [z, e2, pt_s]
          · rw [e2, pt_k _ _ (by omega)]; exact T1 U (by omega)
  refine key 9 (by decide) M fr.rf hz (fun x hx1 hx2 T hT => ?_)
  have : x = 9 := by omega
  subst this
  rw [gN_9]
  exact hz _ (by omega) (by omega)
end Market1
