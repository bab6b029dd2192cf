section Market2
variable {κ : gK} {M : MM} {Q : Int32 → MM → Prop} {t : TW} {s : ST} {la : Nat → Nat} {P : Nat}
theorem nI_m1a (m : Nat) : nI m - 1 = nI m + -1 := by
  apply Int32.toBitVec_inj.mp
  show (nI m).toBitVec - (1 : Int32).toBitVec = (nI m).toBitVec + (-1 : Int32).toBitVec
  rw [BitVec.sub_eq_add_neg]; rfl
theorem jF_cut (g : Nat → Bool) {e : Nat} : ∀ m i, (∀ j, i + m ≤ j → g j = false) → jF g i (m + e) = jF g i m := by
  intro m
  induction m with
  | zero =>
    intro i h
    have := jF_skip g (i := i) (m := 0) (d := e) (fun j h1 _ => h j (by omega))
    rw [Nat.zero_add]; exact this
  | succ m ih =>
    intro i h
    rw [show m + 1 + e = (m + e) + 1 by omega, jF_s, jF_s, ih (i + 1) (fun j hj => h j (by omega))]
theorem gcn_no {x S p : Nat} (hS : S < 2 ^ P) (hp : P ≤ p) : gcn la x S p = false := by
  unfold gcn
  rw [Nat.testBit_lt_two_pow (Nat.lt_of_lt_of_le hS (Nat.pow_le_pow_right (by decide) hp))]; simp
theorem jF_8 {x S : Nat} (hP : P ≤ 8) (hS : S < 2 ^ P) : jF (gcn la x S) 0 8 = jF (gcn la x S) 0 P := by
  have := jF_cut (gcn la x S) (e := 8 - P) P 0 (fun j hj => gcn_no hS (by omega))
  rwa [show P + (8 - P) = 8 by omega] at this
theorem nxS_lt {x S : Nat} (hP : P ≤ 8) (hS : S < 2 ^ P) : nxS la x S < 2 ^ P := by
  rcases jF_or (gcn la x S) 8 0 with q | ⟨p, p1, p2, p3, p4⟩
  · rw [nxS_no q]; exact hS
  · rw [nxS_yes (by omega) p3]
    have : p < P := by
      rcases Nat.lt_or_ge p P with q | q
      · exact q
      · rw [gcn_no hS q] at p4; cases p4
    exact Nat.xor_lt_two_pow hS (Nat.pow_lt_pow_right (by decide) this)
theorem frS_lt (hP : P ≤ 8) : ∀ x, frS la P x < 2 ^ P := by
  intro x
  induction x with
  | zero =>
    show 2 ^ P - 1 < 2 ^ P
    have := Nat.two_pow_pos P
    omega
  | succ x ih => rw [frS_s]; exact nxS_lt hP ih
def RowR (la : Nat → Nat) (P : Nat) (M : MM) (x : Nat) : Prop := ∀ S, S < 2 ^ P → M 128 (256 * x + S) = nI (gN la x S)
theorem r_markets (hT : TwR M t) (ht : twOk t) (hR : Rv M 122 0 s) (hs : stOk t s) (h : ∀ M', fr 128 129 M M' → (∀ x, x ≤ t.1 → RowR s.2.2.1 t.2.2.1 M' x) → Q 0 M') : Cl κ mX11_markets [.ref 119] M Q := by
  have hP := ht.2.1
  have h9 := ht.n9
  have hb := hs.b512 ht
  have hp : 2 ^ t.2.2.1 ≤ 256 := Nat.pow_le_pow_right (n := 2) (j := 8) (by decide) hP
  have hp0 := Nat.two_pow_pos t.2.2.1
  have key : ∀ m, m ≤ t.1 → ∀ M', fr 128 129 M M' → (∀ x, m ≤ x → x ≤ t.1 → RowR s.2.2.1 t.2.2.1 M' x) → G κ mX11_markets 38 [.ref 119, .int (nI m + -1), .null, .null, .null, .null, .null] [] M' Q := by
    intro m
    induction m with
    | zero =>
      intro _ M' f' R'
      exact bX11_markets_38 _ ⟨fun _ => h M' f' (fun x hx => R' x (Nat.zero_le _) hx), fun c => absurd (by decide) c⟩
    | succ m ih =>
      intro hm M' f' R'
      rw [pk_m1]
      refine bX11_markets_38 _ ⟨fun c => absurd c (nI_pos (by omega)), fun _ => ?_⟩
      refine up_ind (2 ^ t.2.2.1) (fun S => ∀ M', fr 128 129 M M' → (∀ x, m + 1 ≤ x → x ≤ t.1 → RowR s.2.2.1 t.2.2.1 M' x) → (∀ U, U < S → M' 128 (256 * m + U) = nI (gN s.2.2.1 m U)) → G κ mX11_markets 44 [.ref 119, .int (nI m), .int (nI S), .null, .null, .null, .null] [] M' Q) ?_ ?_ 0 (Nat.zero_le _) M' f' R' (fun U hU => absurd hU (by omega))
      · intro M1 f1 R1 T1
        refine bX11_markets_44 _ _ ?_
        rw [show M1 119 2 = nI t.2.2.1 by rw [f1 119 (by omega)]; exact hT.2.2.1, one_shl (by omega)]
        refine ⟨fun _ => ih (by omega) M1 f1 (fun x hx1 hx2 => ?_), fun c => absurd (Int32.le_refl _) c⟩
        by_cases z : x = m
        · subst z; exact T1
        · exact R1 x (by omega) hx2
      · intro S hS ih2 M1 f1 R1 T1
        refine bX11_markets_44 _ _ ?_
        have m2 : M1 119 2 = nI t.2.2.1 := by rw [f1 119 (by omega)]; exact hT.2.2.1
        rw [m2, one_shl (by omega), show (256 : Int32) = nI 256 from rfl, nI_1, pk_mul, nI_add, tNI (by omega), R1 (m + 1) (Nat.le_refl _) hm S hS]
        refine ⟨fun c => absurd c (nI_ge hS (by omega)), fun _ => ⟨vp_in_nI (by omega) (by decide), ?_⟩⟩
        rintro v1 rfl
        have hgs := gN_s s.2.2.1 (x := m) S (by omega)
        rw [bF_no (k := t.2.2.1) hP (fun p hp => by rw [Nat.testBit_lt_two_pow (Nat.lt_of_lt_of_le hS (Nat.pow_le_pow_right (by decide) hp)), Bool.false_and])] at hgs
        have hbd : ∀ k, bF (fun p => S.testBit p && (s.2.2.1 p).testBit m) (fun p => 1 + gN s.2.2.1 (m + 1) (S ^^^ 2 ^ p)) (gN s.2.2.1 (m + 1) S) k ≤ 10 := bF_le (Nat.le_trans (gN_le _ _ _) (by decide)) (fun p => by have := gN_le s.2.2.1 (m + 1) (S ^^^ 2 ^ p); omega)
        refine up_ind t.2.2.1 (fun k => G κ mX11_markets 72 [.ref 119, .int (nI m), .int (nI S), .int (nI (bF (fun p => S.testBit p && (s.2.2.1 p).testBit m) (fun p => 1 + gN s.2.2.1 (m + 1) (S ^^^ 2 ^ p)) (gN s.2.2.1 (m + 1) S) k)), .int (nI k), .null, .null] [] M1 Q) ?_ ?_ 0 (Nat.zero_le _)
        · rw [← hgs]
          refine bX11_markets_72 _ _ _ _ ?_
          rw [m2, show (256 : Int32) = nI 256 from rfl, pk_mul, nI_add, tNI (by omega)]
          refine ⟨fun _ => ⟨vp_in_nI (by omega) (by decide), ?_⟩, fun c => absurd (Int32.le_refl _) c⟩
          rintro M2 e2
          rw [nI_1]
          refine ih2 M2 (by rw [e2]; exact f1.pt (by omega) (by omega)) ?_ ?_
          · intro x hx1 hx2 U hU
            rw [e2, pt_k _ _ (by omega)]; exact R1 x hx1 hx2 U hU
          · intro U hU
            by_cases z : U = S
            · rw [z, e2, pt_s]
            · rw [e2, pt_k _ _ (by omega)]; exact T1 U (by omega)
        · intro k hk ih3
          rw [bF_s] at ih3
          have b10 := hbd k
          generalize bF (fun p => S.testBit p && (s.2.2.1 p).testBit m) (fun p => 1 + gN s.2.2.1 (m + 1) (S ^^^ 2 ^ p)) (gN s.2.2.1 (m + 1) S) k = b at *
          have no : (S.testBit k && (s.2.2.1 k).testBit m) = false → G κ mX11_markets 105 [.ref 119, .int (nI m), .int (nI S), .int (nI b), .int (nI k), .null, .null] [] M1 Q := by
            intro q
            rw [if_neg (by rw [q]; decide)] at ih3
            refine bX11_markets_105 _ _ _ _ (bX11_markets_106 _ _ _ _ _ (b0 (bX11_markets_138 _ _ _ _ _ ⟨fun _ => bX11_markets_152 _ _ _ _ ?_, fun c => absurd (nI_pos' (by omega)) c⟩)))
            rw [nI_1]; exact ih3
          refine bX11_markets_72 _ _ _ _ ?_
          rw [m2]
          refine ⟨fun c => absurd c (nI_ge hk (by omega)), fun _ => ⟨fun c => ?_, fun c => no ?_⟩⟩
          · have c := (shr_bit (by omega) (by omega)).mp c
            refine r_isOn (by omega) (by omega) (hR.fr f1 (by omega)) hb (fun q => b1 (bX11_markets_106 _ _ _ _ _ (b1 ?_))) (fun q => b0 (no (by rw [q, Bool.and_false])))
            have sx : S ^^^ 2 ^ k < 2 ^ t.2.2.1 := Nat.xor_lt_two_pow hS (Nat.pow_lt_pow_right (by decide) hk)
            have hg := gN_le s.2.2.1 (m + 1) (S ^^^ 2 ^ k)
            rw [one_shl (by omega), nI_xor, show (256 : Int32) = nI 256 from rfl, nI_1, pk_mul, nI_add, tNI (by omega), R1 (m + 1) (Nat.le_refl _) hm _ sx, show (1 : Int32) = nI 1 from rfl, nI_add]
            rw [if_pos (by rw [c, q]; rfl)] at ih3
            refine ⟨vp_in_nI (by omega) (by decide), bX11_markets_138 _ _ _ _ _ ⟨fun z => bX11_markets_152 _ _ _ _ ?_, fun z => bX11_markets_152 _ _ _ _ ?_⟩⟩
            · have z := (nI_leI (by omega) (by omega)).mp z
              rw [Nat.max_eq_left z] at ih3
              rw [nI_1]; exact ih3
            · have z : b ≤ 1 + gN s.2.2.1 (m + 1) (S ^^^ 2 ^ k) := by
                rcases Nat.lt_or_ge b (1 + gN s.2.2.1 (m + 1) (S ^^^ 2 ^ k)) with y | y
                · omega
                · exact absurd (nI_le y (by omega)) z
              rw [Nat.max_eq_right z] at ih3
              rw [nI_1]; exact ih3
          · cases q : S.testBit k with
            | false => rw [Bool.false_and]
            | true => exact absurd ((shr_bit (by omega) (by omega)).mpr q) c
  refine eX11_markets (bX11_markets_0 ?_)
  refine up_ind 256 (fun k => ∀ M', fr 128 129 M M' → (∀ U, U < k → M' 128 (256 * t.1 + U) = nI 0) → G κ mX11_markets 2 [.ref 119, .int (nI k), .null, .null, .null, .null, .null] [] M' Q) ?_ ?_ 0 (by decide) M fr.rf (fun U hU => absurd hU (by omega))
  · intro M' f' z'
    refine bX11_markets_2 _ ⟨fun _ => ?_, fun c => absurd (by decide) c⟩
    rw [f' 119 (by omega), hT.1, nI_m1a]
    rintro v1 rfl
    refine key t.1 (Nat.le_refl _) M' f' (fun x hx1 hx2 S hS => ?_)
    have : x = t.1 := by omega
    subst this
    rw [z' S (by omega), show gN s.2.2.1 t.1 S = 0 from gF_z hs.2.2.1 _ _ _ (Nat.le_refl _)]
  · intro k hk ih M' f' z'
    refine bX11_markets_2 _ ⟨fun c => absurd c (nI_ge (b := 256) hk (by decide)), fun _ => ?_⟩
    rw [f' 119 (by omega), hT.1, show (256 : Int32) = nI 256 from rfl, pk_mul, nI_add, tNI (by omega)]
    refine ⟨vp_in_nI (by omega) (by decide), ?_⟩
    rintro M2 e2
    rw [nI_1]
    refine ih M2 (by rw [e2]; exact f'.pt (by omega) (by omega)) (fun U hU => ?_)
    by_cases z : U = k
    · rw [z, e2, pt_s]; rfl
    · rw [e2, pt_k _ _ (by omega)]; exact z' U (by omega)
theorem r_keeper {x y : Nat} (hP : P ≤ 8) (hy : y < 9) (h2 : M 119 2 = nI P) (hR : Rv M 122 0 s) (hb : ∀ p, s.2.2.1 p < 512) (hrow : ∀ x, x ≤ y + 1 → RowR s.2.2.1 P M x) (hx : x ≤ y) {S : Nat} (hS : S < 2 ^ P) (l3 : Int32) (h : G κ mX11_market 46 [.ref 119, .int (nI y), .int (nI (nxS s.2.2.1 x S)), .int (jF (gcn s.2.2.1 x S) 0 8), .int (nI (x + 1)), .null, .null] [] M Q) : G κ mX11_market 46 [.ref 119, .int (nI y), .int (nI S), .int l3, .int (nI x), .null, .null] [] M Q := by
  have hp : 2 ^ P ≤ 256 := Nat.pow_le_pow_right (n := 2) (j := 8) (by decide) hP
  refine bX11_market_46 _ _ _ _ ⟨fun c => absurd c (nI_nlt hx (by omega)), fun _ => ?_⟩
  rw [h2, nI_m1a]
  rintro v1 rfl
  have key : ∀ m, m ≤ P → G κ mX11_market 62 [.ref 119, .int (nI y), .int (nI S), .int (jF (gcn s.2.2.1 x S) m (P - m)), .int (nI x), .int (nI m + -1), .null] [] M Q := by
    intro m
    induction m with
    | zero =>
      intro _
      rw [Nat.sub_zero, ← jF_8 hP hS]
      refine bX11_market_62 _ _ _ _ _ ⟨fun _ => ⟨fun c => bX11_market_164 _ _ _ _ _ ?_, fun c => bX11_market_164 _ _ _ _ _ ?_⟩, fun c => absurd (by decide) c⟩
      · rw [show (0 : Int32) = nI 0 from rfl, nI_xor, Nat.xor_zero, nI_1]
        rw [nxS_no c] at h
        exact h
      · rcases jF_or (gcn s.2.2.1 x S) 8 0 with q | ⟨p, p1, p2, p3, p4⟩
        · exact absurd q c
        · rw [nxS_yes (by omega) p3, p3] at h
          rw [p3, one_shl (by omega), nI_xor, nI_1]
          exact h
    | succ m ih =>
      intro hm
      rw [pk_m1]
      have ih := ih (by omega)
      rw [show P - m = (P - (m + 1)) + 1 by omega, jF_s] at ih
      generalize jF (gcn s.2.2.1 x S) (m + 1) (P - (m + 1)) = w at *
      have no : gcn s.2.2.1 x S m = false → G κ mX11_market 130 [.ref 119, .int (nI y), .int (nI S), .int w, .int (nI x), .int (nI m), .null] [] M Q := by
        intro q
        rw [if_neg (by rw [q]; decide)] at ih
        exact bX11_market_130 _ _ _ _ _ (bX11_market_131 _ _ _ _ _ _ (b0 (bX11_market_144 _ _ _ _ _ ih)))
      refine bX11_market_62 _ _ _ _ _ ⟨fun c => absurd c (nI_pos (by omega)), fun _ => ⟨fun c => ?_, fun c => no ?_⟩⟩
      · have c := (shr_bit (by omega) (by omega)).mp c
        refine r_isOn (by omega) (by omega) hR hb (fun q => b1 ?_) (fun q => b0 (no (by unfold gcn; rw [q]; simp)))
        have sx : S ^^^ 2 ^ m < 2 ^ P := Nat.xor_lt_two_pow hS (Nat.pow_lt_pow_right (by decide) hm)
        have hg := gN_le s.2.2.1 (x + 1) (S ^^^ 2 ^ m)
        have hg2 := gN_le s.2.2.1 x S
        rw [one_shl (by omega), nI_xor, show (256 : Int32) = nI 256 from rfl, nI_1, pk_mul, pk_mul, nI_add, nI_add, tNI (by omega), tNI (by omega), hrow (x + 1) (by omega) _ sx, hrow x (by omega) S hS, show (1 : Int32) = nI 1 from rfl, nI_add]
        refine ⟨vp_in_nI (by omega) (by decide), vp_in_nI (by omega) (by decide), fun z => bX11_market_131 _ _ _ _ _ _ (b1 (bX11_market_144 _ _ _ _ _ ?_)), fun z => no ?_⟩
        · have z := nI_inj (by omega) (by omega) z
          rw [if_pos (by unfold gcn; rw [c, q, decide_eq_true z]; rfl)] at ih
          exact ih
        · unfold gcn
          rw [decide_eq_false (fun y => z (by rw [y])), Bool.and_false]
      · unfold gcn
        cases q : S.testBit m with
        | false => simp
        | true => exact absurd ((shr_bit (by omega) (by omega)).mpr q) c
  have := key P (Nat.le_refl _)
  rw [Nat.sub_self] at this
  exact this
theorem CO_st {M M' : MM} {a : AO} (h : CO M t a) (he : ∀ c, cC c → ¬ (c = 103) → M' c = M c) (hx : StC M') : CO M' t a := by
  have k : ∀ c, (c ≤ 12 ∨ (87 ≤ c ∧ c ≤ 98) ∨ c = 103 ∨ (105 ≤ c ∧ c ≤ 107) ∨ (109 ≤ c ∧ c ≤ 112) ∨ (115 ≤ c ∧ c ≤ 118)) → ¬ (c = 103) → M' c = M c := he
  obtain ⟨h1, h2, h3, h4, h5, h6, h7, h8, h9⟩ := h
  refine ⟨?_, ?_, ?_, ?_, ?_, ?_, ?_, ?_, hx⟩
  · exact h1.kept (k _ (by omega) (by omega)) (k _ (by omega) (by omega)) (k _ (by omega) (by omega))
  · intro i hi
    obtain ⟨a1, a2⟩ := h2 i hi
    refine ⟨by rw [k 90 (by omega) (by omega)]; exact a1, fun hb => ?_⟩
    obtain ⟨b1, b2⟩ := a2 hb
    exact ⟨b1.kept (k _ (by omega) (by omega)) (k _ (by omega) (by omega)) (k _ (by omega) (by omega)) (k _ (by omega) (by omega)), by rw [k 89 (by omega) (by omega)]; exact b2⟩
  · unfold TxC; rw [k 11 (by omega) (by omega), k 12 (by omega) (by omega)]; exact h3
  · rw [k 0 (by omega) (by omega)]; exact h4
  · rw [k 0 (by omega) (by omega)]; exact h5
  · unfold ShC; rw [k 105 (by omega) (by omega), k 106 (by omega) (by omega), k 107 (by omega) (by omega)]; exact h6
  · unfold MeC; rw [k 109 (by omega) (by omega), k 110 (by omega) (by omega), k 111 (by omega) (by omega), k 112 (by omega) (by omega)]; exact h7
  · unfold BoC; rw [k 115 (by omega) (by omega), k 116 (by omega) (by omega), k 117 (by omega) (by omega), k 118 (by omega) (by omega)]; exact h8
theorem op_market (hI : IV M) (x : Int32) : Cl κ mX10_market [.ref 0, .int x] M (fun r M1 => Cl κ mX11_market [.ref 119, .int x] M1 (fun r' M2 => r = r' ∧ IV M2)) := by
  have hI2 := hI
  obtain ⟨t, s, u, f, a, ht, hs, hu, ho, c1, c2, c3, d1, d2, d3⟩ := hI
  have hP := ht.2.1
  have h9 := ht.n9
  have hb := hs.1.b512 ht
  have hp : 2 ^ t.2.2.1 ≤ 256 := Nat.pow_le_pow_right (n := 2) (j := 8) (by decide) hP
  have hp0 := Nat.two_pow_pos t.2.2.1
  have both : (x = -1 ∨ ∃ y, y < t.1 ∧ x = nI y) → G κ mX10_market 19 [.ref 0, .int x, .null] [] M (fun r M1 => Cl κ mX11_market [.ref 119, .int x] M1 (fun r' M2 => r = r' ∧ IV M2)) := by
    intro hx
    refine bX10_market_19 _ (s_share stO_13 c1 ht hs.1 (by omega) c3.2.2.2.2.2.2.2.2 (fun M1 f1 z1 k1 => ?_))
    have d3' : RO M1 t a := d3.fr f1 (by decide)
    have d1' := d1.fr f1 (by omega)
    have fin : ∀ M2, fr 128 129 M1 M2 → IV M2 := by
      intro M2 f2
      have kk : ∀ c, c ≠ 103 → c ≠ 104 → c ≠ 128 → M2 c = M c := fun c q1 q2 q3 => by rw [f2 c (by omega), f1 c (by omega)]
      exact ⟨t, s, u, f, a, ht, hs, hu, ho, c1.kept (kk _ (by omega) (by omega) (by omega)) (kk _ (by omega) (by omega) (by omega)) (kk _ (by omega) (by omega) (by omega)) (kk _ (by omega) (by omega) (by omega)), c2.kept (fun c q1 q2 => kk c (by omega) (by omega) (by omega)), CO_st c3 (fun c hc hn => by unfold cC at hc; exact kk c hn (by omega) (by omega)) (by unfold StC; rw [f2 103 (by omega)]; exact z1), d1'.fr f2 (by omega), (d2.fr f1 (by decide)).kept (by rw [f2 119 (by omega)]) (f2 126 (by omega)), d3'.kept (fun c hc => by unfold cR at hc; exact f2 c (by omega)) (fun q _ => by rw [f2 119 (by omega)])⟩
    have ref : ∀ Q' : Int32 → MM → Prop, (∀ M2, fr 128 129 M1 M2 → (∀ x, x ≤ t.1 → RowR s.2.2.1 t.2.2.1 M2 x) → ((x = -1 → Q' (nI (gN s.2.2.1 0 (2 ^ t.2.2.1 - 1))) M2) ∧ (¬ x = -1 → G κ mX11_market 46 [.ref 119, .int x, .int (nI (2 ^ t.2.2.1 - 1)), .int (-1), .int 0, .null, .null] [] M2 Q'))) → G κ mX11_market 16 [.ref 119, .int x, .null, .null, .null, .null, .null] [] M1 Q' := by
      intro Q' hq
      refine bX11_market_16 _ (r_markets d3'.1 ht d1' hs.1 (fun M2 f2 R2 => ?_))
      have hR0 := R2 0 (Nat.zero_le _) (2 ^ t.2.2.1 - 1) (by omega)
      rw [Nat.mul_zero, Nat.zero_add] at hR0
      rw [show M2 119 2 = nI t.2.2.1 by rw [f2 119 (by omega)]; exact d3'.1.2.2.1, all_nI (by omega)]
      rintro v2 rfl
      rw [tNI (by omega), hR0]
      obtain ⟨q1, q2⟩ := hq M2 f2 R2
      exact ⟨fun e => ⟨vp_in_nI (by omega) (by decide), q1 e⟩, q2⟩
    rcases hx with rfl | ⟨y, hy, rfl⟩
    · refine ⟨fun _ => bX10_market_49 _ (eX11_market _ (bX11_market_0 _ ⟨fun _ => ref _ (fun M2 f2 R2 => ⟨fun _ => ⟨rfl, fin M2 f2⟩, fun q => absurd rfl q⟩), fun q => absurd rfl q⟩)), fun q => absurd rfl q⟩
    · have hy1 : nI y ≠ -1 := nI_m1 (by omega)
      refine ⟨fun q => absurd q hy1, fun _ => ⟨vp_in_nI (by omega) (by decide), bX10_market_49 _ ?_⟩⟩
      rw [tNI (by omega), k1 y (by omega)]
      refine eX11_market _ (bX11_market_0 _ ⟨fun q => absurd q hy1, fun _ => r_isLayer d3'.1 ht (fun _ _ _ => b1 (ref _ (fun M2 f2 R2 => ⟨fun q => absurd q hy1, fun _ => ?_⟩))) (fun q => absurd ⟨y, hy, rfl⟩ q)⟩)
      refine up_ind (y + 1) (fun x => ∀ l3 : Int32, (x = y + 1 → l3 = jF (gcn s.2.2.1 y (frS s.2.2.1 t.2.2.1 y)) 0 8) → G κ mX11_market 46 [.ref 119, .int (nI y), .int (nI (frS s.2.2.1 t.2.2.1 x)), .int l3, .int (nI x), .null, .null] [] M2 (fun r' M2 => jF (gcn s.2.2.1 y (frS s.2.2.1 t.2.2.1 y)) 0 8 = r' ∧ IV M2)) ?_ ?_ 0 (Nat.zero_le _) (-1) (fun q => absurd q (by omega))
      · intro l3 hl
        rw [hl rfl]
        exact bX11_market_46 _ _ _ _ ⟨fun _ => ⟨rfl, fin M2 f2⟩, fun c => absurd (nI_lt (by omega) (by omega)) c⟩
      · intro x hx ih l3 _
        have ih2 := ih (jF (gcn s.2.2.1 x (frS s.2.2.1 t.2.2.1 x)) 0 8) (fun e => by rw [show x = y by omega])
        rw [frS_s] at ih2
        exact r_keeper (P := t.2.2.1) hP (by omega) (by rw [f2 119 (by omega)]; exact d3'.1.2.2.1) (d1'.fr f2 (by omega)) hb (fun x hx => R2 x (by omega)) (by omega) (frS_lt hP x) l3 ih2
  refine eX10_market _ (bX10_market_0 _ ⟨fun e => both (.inl e), fun e => s_hasLayer twO_1 c3.1 ht (fun k hk q => b1 (both (.inr ⟨k, hk, q⟩))) (fun hn => b0 ?_)⟩)
  exact eX11_market _ (bX11_market_0 _ ⟨fun q => absurd q e, fun _ => r_isLayer d3.1 ht (fun k hk q => absurd ⟨k, hk, q⟩ hn) (fun _ => b0 ⟨rfl, hI2⟩)⟩)
end Market2
