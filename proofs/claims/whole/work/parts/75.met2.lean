section Met2
variable {κ : gK} {M : MM} {Q : Int32 → MM → Prop} {c : A4}
theorem EX_parts {S r x k : Nat} (hS : S < 256) (hx : S.testBit x = true) (h1 : r ||| 2 ^ x = S) (h2 : r &&& 2 ^ x = 0) : (∃ X, X &&& r = X ∧ obP c (2 ^ x ||| X) ∧ 1 ≤ k ∧ EX c (r ^^^ X) (k - 1)) ↔ EX c S k := by
  have f1 : ∀ i, (r.testBit i || (2 ^ x).testBit i) = S.testBit i := fun i => by rw [← h1, Nat.testBit_or]
  have f2 : ∀ i, (r.testBit i && (2 ^ x).testBit i) = false := fun i => by rw [← Nat.testBit_and, h2, Nat.zero_testBit]
  constructor
  · rintro ⟨X, hX, o, hk, e⟩
    have f3 : ∀ i, X.testBit i = true → r.testBit i = true := fun i hi => and_tb hX hi
    have e2 : (2 ^ x ||| X) ||| (r ^^^ X) = S := by
      refine Nat.eq_of_testBit_eq (fun i => ?_)
      have a1 := f1 i
      have a2 := f2 i
      have a3 := f3 i
      rw [Nat.testBit_or, Nat.testBit_or, Nat.testBit_xor]
      generalize S.testBit i = s at *
      generalize r.testBit i = b at *
      generalize (2 ^ x).testBit i = y at *
      generalize X.testBit i = z at *
      cases s <;> cases b <;> cases y <;> cases z <;> simp_all
    have := EX_add o (fun p hp => by
      have a2 := f2 p
      have a3 := f3 p
      rw [Nat.testBit_or] at hp
      rw [Nat.testBit_xor]
      generalize r.testBit p = b at *
      generalize (2 ^ x).testBit p = y at *
      generalize X.testBit p = z at *
      cases b <;> cases y <;> cases z <;> simp_all) e
    rw [e2, Nat.sub_add_cancel hk] at this
    exact this
  · intro e
    match k, e with
    | 0, e => rw [EX_z e, Nat.zero_testBit] at hx; cases hx
    | k + 1, e =>
      obtain ⟨B, R, o, b2, b3, b4, b5⟩ := EX_off hS hx e
      have f4 : ∀ i, (2 ^ x).testBit i = true → B.testBit i = true := by
        intro i hi
        rw [Nat.testBit_two_pow, decide_eq_true_eq] at hi
        rw [← hi]; exact b2
      refine ⟨B &&& r, ?_, ?_, by omega, ?_⟩
      · refine tb_and_eq (fun i hi => ?_)
        rw [Nat.testBit_and, Bool.and_eq_true] at hi
        exact hi.2
      · have : 2 ^ x ||| (B &&& r) = B := by
          refine Nat.eq_of_testBit_eq (fun i => ?_)
          have a1 := f1 i
          have a2 := f2 i
          have a3 := b3 i
          have a4 := f4 i
          rw [Nat.testBit_or, Nat.testBit_and]
          generalize S.testBit i = s at *
          generalize r.testBit i = b at *
          generalize (2 ^ x).testBit i = y at *
          generalize B.testBit i = z at *
          cases s <;> cases b <;> cases y <;> cases z <;> simp_all
        rw [this]; exact o
      · have : r ^^^ (B &&& r) = R := by
          refine Nat.eq_of_testBit_eq (fun i => ?_)
          have a1 := f1 i
          have a2 := f2 i
          have a3 := b3 i
          have a4 := f4 i
          rw [Nat.testBit_xor, Nat.testBit_and, b4]
          generalize S.testBit i = s at *
          generalize r.testBit i = b at *
          generalize (2 ^ x).testBit i = y at *
          generalize B.testBit i = z at *
          cases s <;> cases b <;> cases y <;> cases z <;> simp_all
        rw [this]; exact b5
theorem s_canBe {S : Nat} (hS : S < 256) (hM : MeC M c) (hc : c.1 ≤ 10) (hb : ∀ i, i < c.1 → c.2.1 i < 8 ∧ c.2.2.1 i < 8 ∧ c.2.2.2 i ≤ 1) (h1 : obP c S → Q 1 M) (h0 : ¬ obP c S → Q 0 M) : Cl κ mX3_canBeOneLayer [.ref 109, .int (nI S)] M Q := by
  refine eX3_canBeOneLayer _ (bX3_canBeOneLayer_0 _ ?_)
  refine up_ind c.1 (fun k => (∀ i, i < k → (c.2.2.2 i = 0 → ¬ (S.testBit (c.2.1 i) = true ∧ S.testBit (c.2.2.1 i) = true)) ∧ (c.2.2.2 i ≠ 0 → S.testBit (c.2.1 i) = S.testBit (c.2.2.1 i))) → G κ mX3_canBeOneLayer 2 [.ref 109, .int (nI S), .int (nI k), .null, .null] [] M Q) ?_ ?_ 0 (Nat.zero_le _) (fun i hi => absurd hi (by omega))
  · intro e
    exact bX3_canBeOneLayer_2 _ _ ⟨fun _ => h1 e, fun q => absurd (by rw [hM.1]; exact Int32.le_refl _) q⟩
  · intro k hk ih e
    have b := hb k hk
    obtain ⟨m1, m2, m3⟩ := hM.2 k hk
    have no : ¬ ((c.2.2.2 k = 0 → ¬ (S.testBit (c.2.1 k) = true ∧ S.testBit (c.2.2.1 k) = true)) ∧ (c.2.2.2 k ≠ 0 → S.testBit (c.2.1 k) = S.testBit (c.2.2.1 k))) → G κ mX3_canBeOneLayer 76 [.null, .null, .null, .null, .null] [] M Q := fun q => bX3_canBeOneLayer_76 (h0 (fun z => q (z k hk)))
    have yes : ((c.2.2.2 k = 0 → ¬ (S.testBit (c.2.1 k) = true ∧ S.testBit (c.2.2.1 k) = true)) ∧ (c.2.2.2 k ≠ 0 → S.testBit (c.2.1 k) = S.testBit (c.2.2.1 k))) → G κ mX3_canBeOneLayer 78 [.ref 109, .int (nI S), .int (nI k), .null, .null] [] M Q := fun q => bX3_canBeOneLayer_78 _ _ (by
      rw [nI_1]
      refine ih (fun i hi => ?_)
      by_cases z : i = k
      · subst z; exact q
      · exact e i (by omega))
    have tk : (nI k).toNatClampNeg = k := tNI (by omega)
    have vk : vp_in (nI k) 10 := vp_in_nI (by omega) (by decide)
    have three : ∀ a1 a2 : Bool, S.testBit (c.2.1 k) = a1 → S.testBit (c.2.2.1 k) = a2 → G κ mX3_canBeOneLayer 47 [.ref 109, .int (nI S), .int (nI k), .int (if a1 = true then 1 else 0), .null] [.int (if a2 = true then 1 else 0)] M Q := by
      intro a1 a2 e1 e2
      rw [e1, e2] at no yes
      refine bX3_canBeOneLayer_47 _ _ _ _ ⟨vk, ?_⟩
      rw [tk, m3]
      refine ⟨fun z => ?_, fun z => ?_⟩
      · have z : c.2.2.2 k = 0 := nI_inj (b := 0) (by omega) (by decide) z
        cases a1 with
        | false => exact b0 (yes ⟨fun _ q => absurd q.1 (by decide), fun q => absurd z q⟩)
        | true =>
          cases a2 with
          | false => exact b1 (b0 (yes ⟨fun _ q => absurd q.2 (by decide), fun q => absurd z q⟩))
          | true => exact b1 (b1 (no (fun q => q.1 z ⟨rfl, rfl⟩)))
      · have z : c.2.2.2 k ≠ 0 := fun q => z (by rw [q]; rfl)
        cases a1 <;> cases a2
        · exact ⟨fun _ => yes ⟨fun q => absurd q z, fun _ => rfl⟩, fun q => absurd rfl q⟩
        · exact ⟨fun q => absurd q (by decide), fun _ => no (fun q => absurd (q.2 z) (by decide))⟩
        · exact ⟨fun q => absurd q (by decide), fun _ => no (fun q => absurd (q.2 z) (by decide))⟩
        · exact ⟨fun _ => yes ⟨fun q => absurd q z, fun _ => rfl⟩, fun q => absurd rfl q⟩
    have two : ∀ a1 : Bool, S.testBit (c.2.1 k) = a1 → G κ mX3_canBeOneLayer 28 [.ref 109, .int (nI S), .int (nI k), .null, .null] [.int (if a1 = true then 1 else 0)] M Q := by
      intro a1 e1
      refine bX3_canBeOneLayer_28 _ _ _ ⟨vk, ?_⟩
      rw [tk, m2]
      refine ⟨fun z => three a1 false e1 ((tb_and (by omega) (by omega)).mp z), fun z => three a1 true e1 ?_⟩
      cases q : S.testBit (c.2.2.1 k) with
      | true => rfl
      | false => exact absurd ((tb_and (by omega) (by omega)).mpr q) z
    refine bX3_canBeOneLayer_2 _ _ ⟨fun q => absurd (by rw [hM.1] at q; exact q) (nI_ge hk (by omega)), fun _ => ⟨vk, ?_⟩⟩
    rw [tk, m1]
    refine ⟨fun z => two false ((tb_and (by omega) (by omega)).mp z), fun z => two true ?_⟩
    cases q : S.testBit (c.2.1 k) with
    | true => rfl
    | false => exact absurd ((tb_and (by omega) (by omega)).mpr q) z
def FwC (c : A4) (M : MM) (S : Nat) : Prop := ∀ T, T < S → ∃ v, v ≤ 1000 + T ∧ M 114 T = nI v ∧ ∀ k, k < 1000 → (v ≤ k ↔ EX c T k)
def OnC (c : A4) (M : MM) (S : Nat) : Prop := ∀ T, 0 < T → T < S → (M 113 T = 0 ↔ ¬ obP c T)
theorem s_fewestWith {B R S : Nat} (hB : B < 256) (hR : R < 256) (hO : M 113 B = 0 ↔ ¬ obP c B) (hF : FwC c M S) (hRS : R < S) (h : ∀ w, w ≤ 1001 + R → (∀ k, k < 1000 → (w ≤ k ↔ obP c B ∧ 1 ≤ k ∧ EX c R (k - 1))) → Q (nI w) M) : Cl κ mX3_fewestWith [.ref 109, .int (nI B), .int (nI R)] M Q := by
  obtain ⟨v, v1, v2, v3⟩ := hF R hRS
  refine eX3_fewestWith _ _ (bX3_fewestWith_0 _ _ ⟨vp_in_nI hB (by decide), ?_⟩)
  rw [tNI (by omega), tNI (by omega), v2]
  refine ⟨fun z => bX3_fewestWith_23 _ (h 1000 (by omega) (fun k hk => ⟨fun q => by omega, fun q => absurd q.1 (hO.mp z)⟩)), fun z => ⟨vp_in_nI hR (by decide), bX3_fewestWith_23 _ ?_⟩⟩
  have ob : obP c B := Classical.byContradiction (fun q => z (hO.mpr q))
  rw [show (1 : Int32) = nI 1 from rfl, nI_add]
  refine h (1 + v) (by omega) (fun k hk => ⟨fun q => ⟨ob, by omega, (v3 (k - 1) (by omega)).mp (by omega)⟩, fun q => ?_⟩)
  have := (v3 (k - 1) (by omega)).mpr q.2.2
  have := q.2.1
  omega
theorem s_fewestFor {S : Nat} (hS : S < 256) (hS0 : S ≠ 0) (hO : OnC c M (S + 1)) (hF : FwC c M S) (h : ∀ w, w ≤ 1000 + S → (∀ k, k < 1000 → (w ≤ k ↔ EX c S k)) → Q (nI w) M) : Cl κ mX3_fewestFor [.ref 109, .int (nI S)] M Q := by
  obtain ⟨x, hx, e1, e2, e3, e4, e5, e6⟩ := least_of S hS hS0
  refine eX3_fewestFor _ (bX3_fewestFor_0 _ ?_)
  rw [e3, e1]
  rintro v1 rfl
  have hr : S - 2 ^ x < 256 := by omega
  have lay : ∀ X, X &&& (S - 2 ^ x) = X → (2 ^ x ||| X) < 256 ∧ (M 113 (2 ^ x ||| X) = 0 ↔ ¬ obP c (2 ^ x ||| X)) ∧ (S - 2 ^ x) ^^^ X < S ∧ (S - 2 ^ x) ^^^ X < 256 := by
    intro X hX
    have f : (2 ^ x ||| X) &&& S = 2 ^ x ||| X := by
      refine tb_and_eq (fun i hi => ?_)
      rw [Nat.testBit_or, Bool.or_eq_true] at hi
      rw [← e4, Nat.testBit_or, Bool.or_eq_true]
      exact hi.elim .inr (fun q => .inl (and_tb hX q))
    have l1 : (2 ^ x ||| X) ≤ S := by
      have := Nat.and_le_right (n := 2 ^ x ||| X) (m := S)
      rwa [f] at this
    have l0 : 0 < (2 ^ x ||| X) := Nat.lt_of_lt_of_le (Nat.two_pow_pos x) Nat.left_le_or
    have l2 : (S - 2 ^ x) ^^^ X ≤ S - 2 ^ x := by
      have f2 : ((S - 2 ^ x) ^^^ X) &&& (S - 2 ^ x) = (S - 2 ^ x) ^^^ X := by
        refine tb_and_eq (fun i hi => ?_)
        have := @and_tb X (S - 2 ^ x) hX i
        rw [Nat.testBit_xor] at hi
        generalize (S - 2 ^ x).testBit i = b at *
        generalize X.testBit i = z at *
        cases b <;> cases z <;> simp_all
      have := Nat.and_le_right (n := (S - 2 ^ x) ^^^ X) (m := S - 2 ^ x)
      rwa [f2] at this
    exact ⟨by omega, hO _ l0 (by omega), by omega, by omega⟩
  generalize hr0 : S - 2 ^ x = r at *
  obtain ⟨a1, a2, a3, a4⟩ := lay 0 (Nat.zero_and r)
  rw [Nat.or_zero] at a1 a2
  rw [Nat.xor_zero] at a3 a4
  have hsub : ∀ X, X &&& r = X → X ≤ r := fun X hX => by
    have := Nat.and_le_right (n := X) (m := r)
    rwa [hX] at this
  refine s_fewestWith a1 a4 a2 hF a3 (fun w hw hwk => ?_)
  have key : ∀ part, part &&& r = part → ∀ b, b ≤ 1000 + S → (∀ k, k < 1000 → (b ≤ k ↔ ∃ X, (X = 0 ∨ part < X) ∧ X &&& r = X ∧ obP c (2 ^ x ||| X) ∧ 1 ≤ k ∧ EX c (r ^^^ X) (k - 1))) → G κ mX3_fewestFor 22 [.ref 109, .null, .int (nI (2 ^ x)), .int (nI r), .int (nI b), .int (nI part)] [] M Q := by
    intro part
    induction part using Nat.strongRecOn with
    | ind part ih =>
      intro hp b hb hbk
      have hp2 := hsub part hp
      by_cases z : part = 0
      · refine bX3_fewestFor_22 _ _ _ _ ⟨fun _ => h b hb (fun k hk => ?_), fun q => absurd (by rw [z]; decide) q⟩
        rw [hbk k hk, ← EX_parts hS e2 e4 e5]
        exact ⟨fun ⟨X, _, q⟩ => ⟨X, q⟩, fun ⟨X, q⟩ => ⟨X, by omega, q⟩⟩
      · obtain ⟨q1, q2, q3, q4⟩ := lay part hp
        refine bX3_fewestFor_22 _ _ _ _ ⟨fun q => absurd q (nI_nle (by omega) (by omega)), fun _ => ?_⟩
        rw [nI_or, nI_andn hr (by omega) hp]
        refine s_fewestWith q1 q4 q2 hF q3 (fun w hw hwk => ?_)
        rintro v2 e2
        rw [show (1 : Int32) = nI 1 from rfl, pk_sub (by omega), nI_and] at e2
        subst e2
        rw [jmin_nI (by omega) (by omega)]
        have lt : (part - 1) &&& r < part := Nat.lt_of_le_of_lt Nat.and_le_left (by omega)
        refine ih ((part - 1) &&& r) lt (by rw [Nat.and_assoc, Nat.and_self]) (min b w) (by omega) (fun k hk => ?_)
        have m1 : min b w ≤ k ↔ b ≤ k ∨ w ≤ k := by omega
        rw [m1, hbk k hk, hwk k hk]
        constructor
        · rintro (⟨X, z1, z2⟩ | z2)
          · exact ⟨X, by omega, z2⟩
          · exact ⟨part, .inr lt, hp, z2⟩
        · rintro ⟨X, z1, z2, z3⟩
          by_cases zz : X = part
          · rw [zz] at z3; exact .inr z3
          · refine .inl ⟨X, ?_, z2, z3⟩
            rcases z1 with z1 | z1
            · exact .inl z1
            · right
              rcases Nat.lt_or_ge X part with y | y
              · exact absurd (sub_next part X r z2 hp y) (by omega)
              · omega
  refine key r (Nat.and_self r) w (by omega) (fun k hk => ?_)
  rw [hwk k hk]
  constructor
  · rintro ⟨z1, z2, z3⟩
    exact ⟨0, .inl rfl, Nat.zero_and r, by rw [Nat.or_zero]; exact z1, z2, by rw [Nat.xor_zero]; exact z3⟩
  · rintro ⟨X, z0, z1, z2, z3, z4⟩
    have : X = 0 := by have := hsub X z1; omega
    subst this
    rw [Nat.or_zero] at z2
    rw [Nat.xor_zero] at z4
    exact ⟨z2, z3, z4⟩
theorem MeC.fr {M M' : MM} (h : MeC M c) (hf : fr 113 115 M M') : MeC M' c := by
  unfold MeC at *
  rw [hf 109 (by omega), hf 110 (by omega), hf 111 (by omega), hf 112 (by omega)]; exact h
theorem s_explained {P : Nat} (hP : P ≤ 8) (hM : MeC M c) (hc : c.1 ≤ 10) (hb : ∀ i, i < c.1 → c.2.1 i < 8 ∧ c.2.2.1 i < 8 ∧ c.2.2.2 i ≤ 1) (h : ∀ M', fr 113 115 M M' → ∀ r, ((∃ k, k ≤ 8 ∧ EX c (2 ^ P - 1) k ∧ (∀ j, j < k → ¬ EX c (2 ^ P - 1) j) ∧ r = nI k) ∨ ((∀ k, k ≤ 8 → ¬ EX c (2 ^ P - 1) k) ∧ r = -1)) → Q r M') : Cl κ mX3_explained [.ref 109, .int (nI P)] M Q := by
  have hp : 2 ^ P ≤ 256 := Nat.pow_le_pow_right (n := 2) (j := 8) (by decide) hP
  have hp0 := Nat.two_pow_pos P
  refine eX3_explained _ (bX3_explained_0 _ ?_)
  rw [all_nI (by omega)]
  rintro v1 rfl M2 e2
  refine up_ind (2 ^ P - 1) (fun k => ∀ M', fr 113 115 M M' → FwC c M' (k + 1) → OnC c M' (k + 1) → G κ mX3_explained 15 [.ref 109, .null, .int (nI (2 ^ P - 1)), .int (nI (k + 1))] [] M' Q) ?_ ?_ 0 (Nat.zero_le _) M2 (by rw [e2]; exact fr.rf.pt (by omega) (by omega)) ?_ ?_
  · intro M' f' hF _
    obtain ⟨v, v1, v2, v3⟩ := hF (2 ^ P - 1) (by omega)
    refine bX3_explained_15 _ _ ⟨fun _ => ⟨vp_in_nI (by omega) (by decide), ?_⟩, fun q => absurd (nI_lt (by omega) (by omega)) q⟩
    rw [tNI (by omega), v2]
    refine ⟨fun q => bX3_explained_69 _ (h M' f' _ (.inl ?_)), fun q => bX3_explained_69 _ (h M' f' _ (.inr ⟨fun k hk z => ?_, rfl⟩))⟩
    · have q := (nI_leI (b := 8) (by omega) (by decide)).mp q
      exact ⟨v, q, (v3 v (by omega)).mp (Nat.le_refl _), fun j hj z => absurd ((v3 j (by omega)).mpr z) (by omega), rfl⟩
    · have := (v3 k (by omega)).mpr z
      exact q (nI_le (b := 8) (by omega) (by decide))
  · intro k hk ih M' f' hF hO
    refine bX3_explained_15 _ _ ⟨fun q => absurd q (nI_nlt (by omega) (by omega)), fun _ => ?_⟩
    have next : ∀ r1 : Int32, isB r1 → (r1 = 0 ↔ ¬ obP c (k + 1)) → (vp_in (nI (k + 1)) 256) ∧ (∀ M2 : MM, M2 = (pt M' 113 ((nI (k + 1))).toNatClampNeg (vp_nar .boolean r1)) → (Cl κ mX3_fewestFor [.ref 109, .int (nI (k + 1))] M2 (fun r3 M3 => ∀ M4 : MM, M4 = (pt M3 114 ((nI (k + 1))).toNatClampNeg r3) → (G κ mX3_explained 15 [.ref 109, .null, .int (nI (2 ^ P - 1)), .int (nI (k + 1) + 1)] [] M4 Q)))) := by
      intro r1 hB hr
      refine ⟨vp_in_nI (by omega) (by decide), ?_⟩
      rw [isB_v hB, tNI (by omega)]
      rintro M2 e2
      have hO2 : OnC c M2 (k + 1 + 1) := by
        intro T h0 hT
        by_cases z : T = k + 1
        · rw [z, e2, pt_s]; exact hr
        · rw [e2, pt_k _ _ z]; exact hO T h0 (by omega)
      have hF2 : FwC c M2 (k + 1) := by
        intro T hT
        obtain ⟨v, v1, v2, v3⟩ := hF T hT
        exact ⟨v, v1, by rw [e2, pt_c _ _ (by decide)]; exact v2, v3⟩
      refine s_fewestFor (by omega) (by omega) hO2 hF2 (fun w hw hwk => ?_)
      rintro M4 e4
      rw [nI_1]
      refine ih M4 (by rw [e4, e2]; exact (f'.pt (by omega) (by omega)).pt (by omega) (by omega)) ?_ ?_
      · intro T hT
        by_cases z : T = k + 1
        · rw [z]; exact ⟨w, hw, by rw [e4, pt_s], hwk⟩
        · obtain ⟨v, v1, v2, v3⟩ := hF2 T (by omega)
          exact ⟨v, v1, by rw [e4, pt_k _ _ z]; exact v2, v3⟩
      · intro T h0 hT
        rw [e4, pt_c _ _ (by decide)]
        exact hO2 T h0 hT
    exact s_canBe (by omega) (hM.fr f') hc hb (fun o => next 1 (.inr rfl) ⟨fun q => absurd q (by decide), fun q => absurd o q⟩) (fun o => next 0 (.inl rfl) ⟨fun _ => o, fun _ => rfl⟩)
  · intro T hT
    have : T = 0 := by omega
    subst this
    exact ⟨0, by omega, by rw [e2, pt_s]; rfl, fun k _ => ⟨fun _ => EX_0 c k, fun _ => Nat.zero_le _⟩⟩
  · intro T h0 hT
    omega
end Met2
