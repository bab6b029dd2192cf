section Town2
variable {κ : gK} {M : MM} {Q : Int32 → MM → Prop} {a : AT}
theorem fe_fig (i : Nat) : ∀ k, i ≤ k → k < fe a i → isFg a k = true := rn_ind (pr := isFg a) (len := a.1) isFg_lt (fun i j => ∀ k, i ≤ k → k < j → isFg a k = true) (fun i _ k h1 h2 => absurd h2 (by omega)) (fun i j _ hb ih k h1 h2 => by
  by_cases z : k = i
  · subst z; exact hb
  · exact ih k (by omega) h2) i
theorem isFg_c {i : Nat} (h : isFg a i = true) : i < a.1 ∧ 48 ≤ a.2 i ∧ a.2 i ≤ 57 := by
  unfold isFg at h
  rw [Bool.and_eq_true, Bool.and_eq_true, decide_eq_true_eq, decide_eq_true_eq, decide_eq_true_eq] at h
  exact h
theorem vl_fe (i : Nat) (h : fe a i - i ≤ 3) : vl a i (fe a i - i) < 1000 := by
  have h1 := vl_lt (a := a) (i := i) (fe a i - i) (fun j hj => (isFg_c (fe_fig i (i + j) (by omega) (by omega))).2.2)
  have h2 : 10 ^ (fe a i - i) ≤ 10 ^ 3 := Nat.pow_le_pow_right (by decide) h
  omega
theorem sk_le (i : Nat) : i ≤ sk a i ∧ (i ≤ a.1 → sk a i ≤ a.1) ∧ sk a i ≤ max i a.1 := rn_le isBl_lt i
theorem fe_le (i : Nat) : i ≤ fe a i ∧ (i ≤ a.1 → fe a i ≤ a.1) ∧ fe a i ≤ max i a.1 := rn_le isFg_lt i
theorem RdC.i {i : Nat} (h : RdC M a (.inr i)) : M 11 1 = nI a.1 ∧ (∀ i, i < a.1 → M 12 i = nI (a.2 i)) ∧ (i ≤ a.1 ∧ M 11 2 = nI i) ∧ M 11 3 = nI 0 ∧ M 11 4 = -1 := h
theorem s_readNumber {lo hi : Nat} {l1 l2 : Int32} (x : XR) (ha : aOk a) (hR : RdC M a x) (hl : ∀ i, x = .inr i → l1 = nI lo ∧ l2 = nI hi ∧ lo < 2 ^ 31 ∧ hi < 2 ^ 31) (h : ∀ M' r, f11 M M' → RdC M' a (num a lo hi x).1 → (∀ i, (num a lo hi x).1 = .inr i → r = nI (num a lo hi x).2) → Q r M') : Cl κ mX5_readNumber [.ref 11, .int l1, .int l2] M Q := by
  have h240 := ha.1
  refine eX5_readNumber _ _ (bX5_readNumber_0 _ _ ?_)
  match x, hR, hl, h with
  | .inl e, hR, _, h =>
    refine ⟨fun c => ?_, fun _ => h M 0 fr.rf hR (fun i hi => by cases hi)⟩
    rw [hR.2.2.2.1] at c
    have := hR.2.2.2.2.1
    have := nI_inj (b := 0) (by omega) (by decide) c
    omega
  | .inr i0, hR, hl, h =>
    obtain ⟨m1, m2, ⟨m3, m4⟩, m5, m6⟩ := hR.i
    obtain ⟨rfl, rfl, hlo, hhi⟩ := hl i0 rfl
    have k1 := (sk_le (a := a) i0)
    have k2 := (fe_le (a := a) (sk a i0))
    refine ⟨fun _ => ?_, fun c => absurd (by rw [m5]; rfl) c⟩
    refine s_skipBlanks ha m1 m2 m3 m4 (fun M1 f1 g1 p1 => ?_)
    rw [p1]
    have h : ∀ M' r, f11 M M' → RdC M' a (numX a lo hi i0).1 → (∀ i, (numX a lo hi i0).1 = .inr i → r = nI (numX a lo hi i0).2) → Q r M' := h
    unfold numX at h
    generalize hj0 : sk a i0 = j0 at *
    -- behind the figures
    have fin : ∀ (l4 : Int32) M', f11 M M' → (∀ k, k ≠ 2 → M' 11 k = M 11 k) → M' 11 2 = nI (fe a j0) → (fe a j0 - j0 ≤ 3 → l4 = nI (vl a j0 (fe a j0 - j0))) → G κ mX5_readNumber 70 [.ref 11, .int (nI lo), .int (nI hi), .int (nI j0), .int l4, .null] [] M' Q := by
      intro l4 M' f' g' p' hl4
      have n1 : M' 11 1 = nI a.1 := by rw [g' 1 (by decide)]; exact m1
      have n2 : ∀ i, i < a.1 → M' 12 i = nI (a.2 i) := fun i hi => by rw [f' 12 (by omega)]; exact m2 i hi
      have n3 : M' 11 3 = 0 := by rw [g' 3 (by decide)]; exact m5
      have n4 : M' 11 4 = -1 := by rw [g' 4 (by decide)]; exact m6
      have blame : ∀ fa : Nat, 0 < fa → fa < 4 → (∀ M' r, f11 M M' → RdC M' a (.inl (fa, j0)) → Q r M') → Cl κ mX5_blame [.ref 11, .int (nI fa), .int (nI j0)] M' (fun _ M1 => G κ mX5_readNumber 116 [.null, .null, .null, .null, .int l4, .null] [] M1 Q) := by
        intro fa fa1 fa2 hq
        refine s_blame (fun _ M2 f2 g2 p2 w2 => bX5_readNumber_116 _ (hq M2 l4 (f'.tr f2) ⟨by rw [g2 1 (by decide) (by decide)]; exact n1, fun i hi => by rw [f2 12 (by omega)]; exact n2 i hi, ⟨fe a j0, by omega, by rw [g2 2 (by decide) (by decide)]; exact p'⟩, p2, ⟨fa1, fa2⟩, w2⟩)) (fun c => absurd n3 c)
      refine bX5_readNumber_70 _ _ _ _ ?_
      rw [p', pk_sub (by omega)]
      by_cases z0 : fe a j0 = j0
      · rw [if_pos z0] at h
        refine ⟨fun _ => blame 1 (by decide) (by decide) (fun M' r f r' => h M' r f r' (fun i hi => by cases hi)), fun c => absurd (by rw [z0, Nat.sub_self]; rfl) c⟩
      · rw [if_neg z0] at h
        refine ⟨fun c => absurd (nI_inj (b := 0) (by omega) (by decide) c) (by omega), fun _ => ?_⟩
        by_cases z1 : 3 < fe a j0 - j0
        · rw [if_pos (.inl z1)] at h
          exact ⟨fun _ => bX5_readNumber_110 _ _ (blame 2 (by decide) (by decide) (fun M' r f r' => h M' r f r' (fun i hi => by cases hi))), fun c => absurd (nI_lt (a := 3) z1 (by omega)) c⟩
        · have hv := vl_fe (a := a) j0 (by omega)
          have hl4 := hl4 (by omega)
          subst hl4
          generalize vl a j0 (fe a j0 - j0) = v at *
          refine ⟨fun c => absurd ((nI_ltI (a := 3) (by decide) (by omega)).mp c) z1, fun _ => ⟨fun c => ?_, fun c => ⟨fun c2 => ?_, fun c2 => ?_⟩⟩⟩
          · have c := (nI_ltI (by omega) hlo).mp c
            rw [if_pos (.inr (.inl c))] at h
            exact bX5_readNumber_110 _ _ (blame 2 (by decide) (by decide) (fun M' r f r' => h M' r f r' (fun i hi => by cases hi)))
          · have c2 := (nI_leI (by omega) hhi).mp c2
            have c1 : ¬ v < lo := fun q => c (nI_lt q hlo)
            rw [if_neg (by omega)] at h
            exact bX5_readNumber_116 _ (h M' _ f' ⟨n1, n2, ⟨by omega, p'⟩, n3, n4⟩ (fun _ _ => rfl))
          · have c2 : hi < v := by
              rcases Nat.lt_or_ge hi v with q | q
              · exact q
              · exact absurd (nI_le q hhi) c2
            rw [if_pos (.inr (.inr c2))] at h
            exact bX5_readNumber_110 _ _ (blame 2 (by decide) (by decide) (fun M' r f r' => h M' r f r' (fun i hi => by cases hi)))
    have key := rn_ind (pr := isFg a) (len := a.1) isFg_lt (fun i j => j0 ≤ i → i ≤ a.1 → ∀ (l4 : Int32) M', f11 M M' → (∀ k, k ≠ 2 → M' 11 k = M 11 k) → M' 11 2 = nI i → (i - j0 ≤ 3 → l4 = nI (vl a j0 (i - j0))) → (∀ (l4 : Int32) M', f11 M M' → (∀ k, k ≠ 2 → M' 11 k = M 11 k) → M' 11 2 = nI j → (j - j0 ≤ 3 → l4 = nI (vl a j0 (j - j0))) → G κ mX5_readNumber 70 [.ref 11, .int (nI lo), .int (nI hi), .int (nI j0), .int l4, .null] [] M' Q) → G κ mX5_readNumber 21 [.ref 11, .int (nI lo), .int (nI hi), .int (nI j0), .int l4, .null] [] M' Q) ?_ ?_ j0 (Nat.le_refl _) (by omega) 0 M1 f1 g1 p1 (fun _ => by rw [Nat.sub_self]; rfl) fin
    · exact key
    · intro i hb hj hi l4 M' f' g' p' hv hq
      have n1 : M' 11 1 = nI a.1 := by rw [g' 1 (by decide)]; exact m1
      have n2 : ∀ i, i < a.1 → M' 12 i = nI (a.2 i) := fun i hi => by rw [f' 12 (by omega)]; exact m2 i hi
      refine bX5_readNumber_21 _ _ _ _ ?_
      rw [n1, p']
      refine ⟨fun _ => hq l4 M' f' g' p' hv, fun c => ?_⟩
      have q : i < a.1 := by
        rcases Nat.lt_or_ge i a.1 with q | q
        · exact q
        · exact absurd (nI_le q (by omega)) c
      refine s_letterHere ha n1 n2 hi p' ?_
      rw [if_pos q]
      refine s_isFigure (ha.2 i q) (fun e => ?_) (fun _ => b0 (hq l4 M' f' g' p' hv))
      unfold isFg at hb
      rw [decide_eq_true q, decide_eq_true e.1, decide_eq_true e.2] at hb
      cases hb
    · intro i j hil hb ih hj hi l4 M' f' g' p' hv hq
      have n1 : M' 11 1 = nI a.1 := by rw [g' 1 (by decide)]; exact m1
      have n2 : ∀ i, i < a.1 → M' 12 i = nI (a.2 i) := fun i hi => by rw [f' 12 (by omega)]; exact m2 i hi
      obtain ⟨_, c1, c2⟩ := isFg_c hb
      refine bX5_readNumber_21 _ _ _ _ ?_
      rw [n1, p']
      refine ⟨fun c => absurd c (nI_ge hil (by omega)), fun _ => s_letterHere ha n1 n2 hi p' ?_⟩
      rw [if_pos hil]
      refine s_isFigure (ha.2 i hil) (fun _ => b1 ?_) (fun e => absurd ⟨c1, c2⟩ e)
      refine s_letterHere ha n1 n2 hi p' ?_
      rw [if_pos hil, p', nI_1]
      rintro v4 e4 M5 e5
      refine ih (by omega) (by omega) v4 M5 (by rw [e5]; exact f'.pt (by omega) (by omega)) (fun k hk => by rw [e5, pt_k _ _ hk]; exact g' k hk) (by rw [e5, pt_s]) (fun hc => ?_) hq
      rw [e4, hv (by omega), show i + 1 - j0 = (i - j0) + 1 by omega, vl_s, show j0 + (i - j0) = i by omega, show (10 : Int32) = nI 10 from rfl, pk_mul, nI_add, show (48 : Int32) = nI 48 from rfl, pk_sub (by omega)]
      rw [Nat.add_sub_assoc c1]
theorem s_readWord {c : Nat} (x : XR) (hc : c ≤ 255) (ha : aOk a) (hR : RdC M a x) (h : ∀ M', f11 M M' → RdC M' a (wrd a c x) → Q 0 M') : Cl κ mX5_readWord [.ref 11, .int (nI c)] M Q := by
  have h240 := ha.1
  refine eX5_readWord _ (bX5_readWord_0 _ ?_)
  match x, hR, h with
  | .inl e, hR, h =>
    refine ⟨fun z => ?_, fun _ => h M fr.rf hR⟩
    rw [hR.2.2.2.1] at z
    have := hR.2.2.2.2.1
    have := nI_inj (b := 0) (by omega) (by decide) z
    omega
  | .inr i0, hR, h =>
    obtain ⟨m1, m2, ⟨m3, m4⟩, m5, m6⟩ := hR.i
    have k1 := (sk_le (a := a) i0)
    have h : ∀ M', f11 M M' → RdC M' a (wrdX a c i0) → Q 0 M' := h
    unfold wrdX at h
    refine ⟨fun _ => ?_, fun z => absurd (by rw [m5]; rfl) z⟩
    refine s_skipBlanks ha m1 m2 m3 m4 (fun M1 f1 g1 p1 => ?_)
    have n1 : M1 11 1 = nI a.1 := by rw [g1 1 (by decide)]; exact m1
    have n2 : ∀ i, i < a.1 → M1 12 i = nI (a.2 i) := fun i hi => by rw [f1 12 (by omega)]; exact m2 i hi
    have n3 : M1 11 3 = 0 := by rw [g1 3 (by decide)]; exact m5
    have n4 : M1 11 4 = -1 := by rw [g1 4 (by decide)]; exact m6
    refine s_letterHere ha n1 n2 (by omega) p1 ?_
    rw [p1]
    generalize sk a i0 = j0 at *
    have no : ¬ (j0 < a.1 ∧ a.2 j0 = c) → Cl κ mX5_blame [.ref 11, .int 1, .int (nI j0)] M1 (fun _ M4 => G κ mX5_readWord 42 [.null, .null] [] M4 Q) := by
      intro z
      rw [if_neg z] at h
      exact s_blame (fun _ M2 f2 g2 p2 w2 => bX5_readWord_42 (h M2 (f1.tr f2) ⟨by rw [g2 1 (by decide) (by decide)]; exact n1, fun i hi => by rw [f2 12 (by omega)]; exact n2 i hi, ⟨j0, by omega, by rw [g2 2 (by decide) (by decide)]; exact p1⟩, p2, ⟨Nat.one_pos, Nat.lt_of_sub_pos (by decide : 0 < 4 - 1)⟩, w2⟩)) (fun z => absurd n3 z)
    by_cases q : j0 < a.1
    · rw [if_pos q]
      have hl := ha.2 j0 q
      refine ⟨fun e => ?_, fun e => no (fun z => e (by rw [z.2]))⟩
      rw [if_pos ⟨q, nI_inj (by omega) (by omega) e⟩] at h
      rw [nI_1]
      rintro M3 e3
      exact bX5_readWord_42 (h M3 (by rw [e3]; exact f1.pt (by omega) (by omega)) ⟨by rw [e3, pt_k _ _ (by decide)]; exact n1, fun i hi => by rw [e3, pt_c _ _ (by decide)]; exact n2 i hi, ⟨by omega, by rw [e3, pt_s]⟩, by rw [e3, pt_k _ _ (by decide)]; exact n3, by rw [e3, pt_k _ _ (by decide)]; exact n4⟩)
    · rw [if_neg q]
      exact ⟨fun e => absurd e (fun e => nI_m1 (p := c) (by omega) e.symm), fun _ => no (fun z => q z.1)⟩
end Town2
