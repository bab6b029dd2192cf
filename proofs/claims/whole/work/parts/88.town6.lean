section Town6
variable {κ : gK} {M : MM} {Q : Int32 → MM → Prop} {a : AT} {d : DR}
/-- the reader's cells of the reference; behind a fault it may stand anywhere up to b -/
def RdR (M : MM) (a : AT) (b : Nat) (x : XR) : Prop := M 119 8 = nI a.1 ∧ (∀ i, i < a.1 → M 123 i = nI (a.2 i)) ∧ match x with
  | .inl e => (∃ i, i ≤ b ∧ M 119 10 = nI i) ∧ M 119 11 = nI e.1 ∧ (0 < e.1 ∧ e.1 < 4) ∧ M 119 9 = nI e.2 ∧ e.2 ≤ a.1
  | .inr i => (i ≤ a.1 ∧ M 119 10 = nI i) ∧ M 119 11 = nI 0 ∧ M 119 9 = -1
theorem RdR.i {b i : Nat} (h : RdR M a b (.inr i)) : M 119 8 = nI a.1 ∧ (∀ i, i < a.1 → M 123 i = nI (a.2 i)) ∧ (i ≤ a.1 ∧ M 119 10 = nI i) ∧ M 119 11 = nI 0 ∧ M 119 9 = -1 := h
def fR (M M' : MM) : Prop := (∀ c, c ≠ 119 → M' c = M c) ∧ ∀ k, k ≠ 9 → k ≠ 10 → k ≠ 11 → M' 119 k = M 119 k
theorem fR.rf : fR M M := ⟨fun _ _ => rfl, fun _ _ _ _ => rfl⟩
theorem fR.tr {M M1 M2 : MM} (h : fR M M1) (h2 : fR M1 M2) : fR M M2 := ⟨fun c hc => (h2.1 c hc).trans (h.1 c hc), fun k k1 k2 k3 => (h2.2 k k1 k2 k3).trans (h.2 k k1 k2 k3)⟩
theorem fR.pt {M M1 : MM} {k : Nat} {x : Int32} (h : fR M M1) (hk : k = 9 ∨ k = 10 ∨ k = 11) : fR M (pt M1 119 k x) := ⟨fun c hc => by rw [pt_c _ _ hc]; exact h.1 c hc, fun j k1 k2 k3 => by rw [pt_k _ _ (by omega)]; exact h.2 j k1 k2 k3⟩
theorem r_here {i : Nat} (ha : aOk a) (h1 : M 119 8 = nI a.1) (h2 : ∀ i, i < a.1 → M 123 i = nI (a.2 i)) (hi : i ≤ 1000) (h3 : M 119 10 = nI i) (h : ∀ M', fR M M' → (∀ k, k ≠ 10 → M' 119 k = M 119 k) → M' 119 10 = nI (sk a i) → Q (if sk a i < a.1 then nI (a.2 (sk a i)) else -1) M') : Cl κ mX11_here [.ref 119] M Q := by
  have h240 := ha.1
  refine eX11_here ?_
  have last : ∀ i M', i ≤ 1000 → M' 119 8 = nI a.1 → (∀ i, i < a.1 → M' 123 i = nI (a.2 i)) → M' 119 10 = nI i → Q (if i < a.1 then nI (a.2 i) else -1) M' → G κ mX11_here 38 [.ref 119] [] M' Q := by
    intro i M' hi m1 m2 m3 hq
    refine bX11_here_38 ?_
    rw [m1, m3]
    refine ⟨fun c => bX11_here_62 _ ?_, fun c => ?_⟩
    · have c := (nI_leI (by omega) (by omega)).mp c
      rw [if_neg (by omega)] at hq; exact hq
    · have c : i < a.1 := by
        rcases Nat.lt_or_ge i a.1 with y | y
        · exact y
        · exact absurd (nI_le y (by omega)) c
      rw [if_pos c] at hq
      rw [tNI (by omega), m2 i c]
      exact ⟨vp_in_nI (by omega) (by decide), bX11_here_62 _ hq⟩
  have key := rn_ind (pr := isBl a) (len := a.1) isBl_lt (fun i j => i ≤ 1000 → ∀ M', fR M M' → (∀ k, k ≠ 10 → M' 119 k = M 119 k) → M' 119 10 = nI i → (∀ M', fR M M' → (∀ k, k ≠ 10 → M' 119 k = M 119 k) → M' 119 10 = nI j → Q (if j < a.1 then nI (a.2 j) else -1) M') → G κ mX11_here 0 [.ref 119] [] M' Q) ?_ ?_ i hi M fR.rf (fun _ _ => rfl) h3 h
  · exact key
  · intro i hb hi M' f' k' a' hq
    have m1 : M' 119 8 = nI a.1 := by rw [k' 8 (by decide)]; exact h1
    have m2 : ∀ i, i < a.1 → M' 123 i = nI (a.2 i) := fun i hi => by rw [f'.1 123 (by decide)]; exact h2 i hi
    have l := last i M' hi m1 m2 a' (hq M' f' k' a')
    refine bX11_here_0 ?_
    rw [m1, a']
    refine ⟨fun _ => l, fun c => ?_⟩
    have q : i < a.1 := by
      rcases Nat.lt_or_ge i a.1 with q | q
      · exact q
      · exact absurd (nI_le q (by omega)) c
    have hl := ha.2 i q
    rw [tNI (by omega), m2 i q]
    refine ⟨vp_in_nI (by omega) (by decide), fun e => ?_, fun _ => l⟩
    have e : a.2 i = 32 := nI_inj (b := 32) (by omega) (by decide) e
    unfold isBl at hb
    rw [decide_eq_true q, decide_eq_true e] at hb
    cases hb
  · intro i j hil hb ih hi M' f' k' a' hq
    have m1 : M' 119 8 = nI a.1 := by rw [k' 8 (by decide)]; exact h1
    have m2 : ∀ i, i < a.1 → M' 123 i = nI (a.2 i) := fun i hi => by rw [f'.1 123 (by decide)]; exact h2 i hi
    unfold isBl at hb
    rw [Bool.and_eq_true, decide_eq_true_eq, decide_eq_true_eq] at hb
    refine bX11_here_0 ?_
    rw [m1, a', tNI (by omega), m2 i hil, nI_1]
    refine ⟨fun c => absurd c (nI_ge hil (by omega)), fun _ => ⟨vp_in_nI (by omega) (by decide), fun _ => ?_, fun c => absurd (by rw [hb.2]; rfl) c⟩⟩
    rintro M2 e2
    exact ih (by omega) M2 (by rw [e2]; exact f'.pt (.inr (.inl rfl))) (fun k hk => by rw [e2, pt_k _ _ hk]; exact k' k hk) (by rw [e2, pt_s]) hq
theorem r_faults {n w : Int32} (h1 : M 119 11 = 0 → ∀ M', fR M M' → (∀ k, k ≠ 11 → k ≠ 9 → M' 119 k = M 119 k) → M' 119 11 = n → M' 119 9 = w → Q 0 M') (h0 : M 119 11 ≠ 0 → Q 0 M) : Cl κ mX11_faults [.ref 119, .int n, .int w] M Q := by
  refine eX11_faults _ _ (bX11_faults_0 _ _ ⟨fun e => ?_, fun e => bX11_faults_17 (h0 e)⟩)
  rintro M1 e1 M2 e2
  refine bX11_faults_17 (h1 e M2 (by rw [e2, e1]; exact (fR.rf.pt (.inr (.inr rfl))).pt (.inl rfl)) (fun k k1 k2 => by rw [e2, pt_k _ _ k2, e1, pt_k _ _ k1]) (by rw [e2, pt_k _ _ (by decide), e1, pt_s]) (by rw [e2, pt_s]))
theorem r_faultsX {b n i : Nat} (hb : a.1 ≤ b) (hn : 0 < n ∧ n < 4) {j : Nat} (hj : j ≤ a.1) (hR : RdR M a b (.inr i)) (h : ∀ M', fR M M' → RdR M' a b (.inl (n, j)) → M' 119 10 = nI i → Q 0 M') : Cl κ mX11_faults [.ref 119, .int (nI n), .int (nI j)] M Q := by
  obtain ⟨m1, m2, ⟨m3, m4⟩, m5, m6⟩ := hR.i
  exact r_faults (fun _ M2 f2 g2 p2 w2 => h M2 f2 ⟨by rw [g2 8 (by decide) (by decide)]; exact m1, fun i hi => by rw [f2.1 123 (by decide)]; exact m2 i hi, ⟨i, by omega, by rw [g2 10 (by decide) (by decide)]; exact m4⟩, p2, hn, w2, hj⟩ (by rw [g2 10 (by decide) (by decide)]; exact m4)) (fun c => absurd m5 c)
theorem nI_tl {n : Nat} (h : n < 2 ^ 31) : (nI n).toInt64.toInt = n := by rw [Int32.toInt_toInt64, nI_toInt h]
theorem r_number {lo hi b : Nat} {l1 l2 : Int32} (x : XR) (ha : aOk a) (hb1 : a.1 ≤ b) (hb2 : b ≤ 1000) (hR : RdR M a b x) (hl : ∀ i, x = .inr i → l1 = nI lo ∧ l2 = nI hi ∧ lo < 2 ^ 31 ∧ hi < 2 ^ 31) (h : ∀ M' r, fR M M' → RdR M' a b (num a lo hi x).1 → (∀ i, (num a lo hi x).1 = .inr i → r = nI (num a lo hi x).2) → Q r M') : Cl κ mX11_number [.ref 119, .int l1, .int l2] M Q := by
  have h240 := ha.1
  refine eX11_number _ _ (bX11_number_0 _ _ ?_)
  match x, hR, hl, h with
  | .inl e, hR, _, h =>
    obtain ⟨m1, m2, ⟨i, hi, m4⟩, m5, m6, m7, m8⟩ := hR
    have ks := sk_le (a := a) i
    refine r_here ha m1 m2 (by omega) m4 (fun M1 f1 g1 p1 => ?_)
    have n5 : M1 119 11 = nI e.1 := by rw [g1 11 (by decide)]; exact m5
    rw [n5]
    refine ⟨fun _ => bX11_number_32 _ _ (r_faults (fun z => ?_) (fun _ => h M1 l1 f1 ⟨by rw [g1 8 (by decide)]; exact m1, fun i hi => by rw [f1.1 123 (by decide)]; exact m2 i hi, ⟨_, by omega, p1⟩, n5, m6, by rw [g1 9 (by decide)]; exact m7, m8⟩ (fun i hi => by cases hi))), fun z => absurd (nI_lt (a := 0) m6.1 (by omega)) z⟩
    rw [n5] at z
    have := nI_inj (b := 0) (by omega) (by decide) z
    omega
  | .inr i0, hR, hl, h =>
    obtain ⟨m1, m2, ⟨m3, m4⟩, m5, m6⟩ := hR.i
    obtain ⟨rfl, rfl, hlo, hhi⟩ := hl i0 rfl
    have k1 := (sk_le (a := a) i0)
    have k2 := (fe_le (a := a) (sk a i0))
    refine r_here ha m1 m2 (by omega) m4 (fun M1 f1 g1 p1 => ?_)
    have n5 : M1 119 11 = 0 := by rw [g1 11 (by decide)]; exact m5
    rw [n5, p1]
    have h : ∀ M' r, fR M M' → RdR M' a b (numX a lo hi i0).1 → (∀ i, (numX a lo hi i0).1 = .inr i → r = nI (numX a lo hi i0).2) → Q r M' := h
    unfold numX at h
    generalize hj0 : sk a i0 = j0 at *
    have R1 : RdR M1 a b (.inr j0) := ⟨by rw [g1 8 (by decide)]; exact m1, fun i hi => by rw [f1.1 123 (by decide)]; exact m2 i hi, ⟨by omega, p1⟩, n5, by rw [g1 9 (by decide)]; exact m6⟩
    have nofig : isFg a j0 = false → G κ mX11_number 32 [.ref 119, .int (nI lo), .null, .null, .int (nI j0), .null] [] M1 Q := by
      intro z
      rw [if_pos (show fe a j0 = j0 from rn_stop z)] at h
      exact bX11_number_32 _ _ (r_faultsX (n := 1) hb1 ⟨by decide, by decide⟩ (by omega) R1 (fun M2 f2 R2 _ => h M2 _ (f1.tr f2) R2 (fun i hi => by cases hi)))
    refine ⟨fun z => absurd z (by decide), fun _ => ?_⟩
    by_cases q0 : j0 < a.1
    · rw [if_pos q0]
      have hl0 := ha.2 j0 q0
      refine r_inN 48 57 rfl rfl (by decide) (fun k k3 k4 e => b1 ?_) (fun z => b0 (nofig ?_))
      · have e := nI_inj (by omega) (by omega) e
        have fg0 : isFg a j0 = true := by
          unfold isFg
          rw [decide_eq_true q0, decide_eq_true (by omega : 48 ≤ a.2 j0), decide_eq_true (by omega : a.2 j0 ≤ 57)]; rfl
        have ne0 : ¬ fe a j0 = j0 := by
          have a1 : fe a j0 = fe a (j0 + 1) := rn_step q0 fg0
          have a2 := (fe_le (a := a) (j0 + 1)).1
          omega
        rw [if_neg ne0] at h
        have bad : ∀ (l5 : Int32) M', RdR M' a b (.inr (fe a j0)) → fR M M' → (3 < fe a j0 - j0 ∨ vl a j0 (fe a j0 - j0) < lo ∨ hi < vl a j0 (fe a j0 - j0)) → G κ mX11_number 150 [.ref 119, .null, .null, .null, .int (nI j0), .int l5] [] M' Q := by
          intro l5 M' R' f' z
          rw [if_pos z] at h
          exact bX11_number_150 _ _ (r_faultsX (n := 2) hb1 ⟨by decide, by decide⟩ (by omega) R' (fun M2 f2 R2 _ => bX11_number_157 _ (h M2 _ (f'.tr f2) R2 (fun i hi => by cases hi))))
        have fin : ∀ (l5 : Int32) M', RdR M' a b (.inr (fe a j0)) → fR M M' → (fe a j0 - j0 ≤ 3 → l5 = nI (vl a j0 (fe a j0 - j0))) → G κ mX11_number 126 [.ref 119, .int (nI lo), .int (nI hi), .null, .int (nI j0), .int l5] [] M' Q := by
          intro l5 M' R' f' hv
          refine bX11_number_126 _ _ _ _ ?_
          rw [R'.i.2.2.1.2, pk_sub (by omega)]
          refine ⟨fun z => bad l5 M' R' f' (.inl ((nI_ltI (a := 3) (by decide) (by omega)).mp z)), fun z => ?_⟩
          have z : ¬ 3 < fe a j0 - j0 := fun q => z (nI_lt (a := 3) q (by omega))
          have hv := hv (by omega)
          subst hv
          have hvl := vl_fe (a := a) j0 (by omega)
          refine r_in (fun y1 y2 => b1 (bX11_number_157 _ ?_)) (fun y => b0 (bad _ M' R' f' (.inr ?_)))
          · rw [nI_tl hlo, nI_toInt (by omega)] at y1
            rw [nI_tl hhi, nI_toInt (by omega)] at y2
            rw [if_neg (by omega)] at h
            exact h M' _ f' R' (fun _ _ => rfl)
          · rw [nI_tl hlo, nI_tl hhi, nI_toInt (by omega)] at y
            omega
        have key := rn_ind (pr := isFg a) (len := a.1) isFg_lt (fun i j => j0 ≤ i → i ≤ a.1 → ∀ (l5 : Int32) M', RdR M' a b (.inr i) → fR M M' → (i - j0 ≤ 3 → l5 = nI (vl a j0 (i - j0))) → (∀ (l5 : Int32) M', RdR M' a b (.inr j) → fR M M' → (j - j0 ≤ 3 → l5 = nI (vl a j0 (j - j0))) → G κ mX11_number 126 [.ref 119, .int (nI lo), .int (nI hi), .null, .int (nI j0), .int l5] [] M' Q) → G κ mX11_number 44 [.ref 119, .int (nI lo), .int (nI hi), .null, .int (nI j0), .int l5] [] M' Q) ?_ ?_ j0 (Nat.le_refl _) (by omega) 0 M1 R1 f1 (fun _ => by rw [Nat.sub_self]; rfl) fin
        · exact key
        · intro i hb hj hi l5 M' R' f' hv hq
          refine bX11_number_44 _ _ _ _ ?_
          rw [R'.1, R'.i.2.2.1.2]
          refine ⟨fun _ => hq l5 M' R' f' hv, fun c => ?_⟩
          have q : i < a.1 := by
            rcases Nat.lt_or_ge i a.1 with q | q
            · exact q
            · exact absurd (nI_le q (by omega)) c
          have hl := ha.2 i q
          rw [tNI (by omega), R'.2.1 i q]
          refine ⟨vp_in_nI (by omega) (by decide), r_inN 48 57 rfl rfl (by decide) (fun k k3 k4 e => ?_) (fun _ => b0 (hq l5 M' R' f' hv))⟩
          have e := nI_inj (by omega) (by omega) e
          unfold isFg at hb
          rw [decide_eq_true q, decide_eq_true (by omega : 48 ≤ a.2 i), decide_eq_true (by omega : a.2 i ≤ 57)] at hb
          cases hb
        · intro i j hil hb ih hj hia l5 M' R' f' hv hq
          obtain ⟨_, c1, c2⟩ := isFg_c hb
          refine bX11_number_44 _ _ _ _ ?_
          have hat := R'.i.2.2.1.2
          rw [R'.1, hat]
          refine ⟨fun c => absurd c (nI_ge hil (by omega)), fun _ => ?_⟩
          rw [tNI (by omega), R'.2.1 i hil]
          refine ⟨vp_in_nI (by omega) (by decide), r_inN 48 57 rfl rfl (by decide) (fun _ _ _ _ => b1 ?_) (fun z => absurd ⟨a.2 i, c1, c2, rfl⟩ z)⟩
          have step : ∀ s0 : Int32, (i + 1 - j0 ≤ 3 → s0 = nI (vl a j0 (i + 1 - j0))) → G κ mX11_number 111 [.ref 119, .int (nI lo), .int (nI hi), .null, .int (nI j0), .null] [.int s0] M' Q := by
            intro s0 hs0
            refine bX11_number_111 _ _ _ _ ?_
            rw [hat, nI_1]
            rintro M2 e2
            exact ih (by omega) (by omega) s0 M2 ⟨by rw [e2, pt_k _ _ (by decide)]; exact R'.1, fun i hi => by rw [e2, pt_c _ _ (by decide)]; exact R'.2.1 i hi, ⟨by omega, by rw [e2, pt_s]⟩, by rw [e2, pt_k _ _ (by decide)]; exact R'.i.2.2.2.1, by rw [e2, pt_k _ _ (by decide)]; exact R'.i.2.2.2.2⟩ (by rw [e2]; exact f'.pt (.inr (.inl rfl))) hs0 hq
          rw [hat, pk_sub (by omega), tNI (by omega), R'.2.1 i hil]
          refine ⟨fun z => step _ (fun y => ?_), fun _ => ⟨vp_in_nI (by omega) (by decide), step _ (fun y => ?_)⟩⟩
          · have := (nI_leI (a := 4) (by decide) (by omega)).mp z
            omega
          · rw [hv (by omega), show i + 1 - j0 = (i - j0) + 1 by omega, vl_s, show j0 + (i - j0) = i by omega, show (10 : Int32) = nI 10 from rfl, pk_mul, nI_add, show (48 : Int32) = nI 48 from rfl, pk_sub (by omega), Nat.add_sub_assoc c1, Nat.mul_comm]
      · cases q : isFg a j0 with
        | false => rfl
        | true => exact absurd ⟨a.2 j0, (isFg_c q).2.1, (isFg_c q).2.2, rfl⟩ z
    · rw [if_neg q0]
      refine r_inN 48 57 rfl rfl (by decide) (fun k k3 k4 e => absurd e.symm (nI_m1 (by omega))) (fun z => b0 (nofig ?_))
      unfold isFg
      rw [decide_eq_false q0]; rfl
theorem r_ends {b : Nat} (x : XR) (ha : aOk a) (hb1 : a.1 ≤ b) (hb2 : b ≤ 1000) (hR : RdR M a b x) (h : ∀ M', fR M M' → RdR M' a (b + 1) (wrd a 59 x) → Q 0 M') : Cl κ mX11_ends [.ref 119] M Q := by
  have h240 := ha.1
  refine eX11_ends (bX11_ends_0 ?_)
  match x, hR, h with
  | .inl e, hR, h =>
    obtain ⟨m1, m2, ⟨i, hi, m4⟩, m5, m6, m7, m8⟩ := hR
    have ks := sk_le (a := a) i
    refine r_here ha m1 m2 (by omega) m4 (fun M1 f1 g1 p1 => ?_)
    have n5 : M1 119 11 = nI e.1 := by rw [g1 11 (by decide)]; exact m5
    have go : G κ mX11_ends 18 [.ref 119] [] M1 Q := by
      refine bX11_ends_18 ?_
      rw [p1, nI_1]
      rintro M2 e2
      refine h M2 (by rw [e2]; exact f1.pt (.inr (.inl rfl))) ⟨by rw [e2, pt_k _ _ (by decide), g1 8 (by decide)]; exact m1, fun i hi => by rw [e2, pt_c _ _ (by decide), f1.1 123 (by decide)]; exact m2 i hi, ⟨sk a i + 1, by omega, by rw [e2, pt_s]⟩, by rw [e2, pt_k _ _ (by decide)]; exact n5, m6, by rw [e2, pt_k _ _ (by decide), g1 9 (by decide)]; exact m7, m8⟩
    refine ⟨fun _ => go, fun _ => r_faults (fun z => ?_) (fun _ => go)⟩
    rw [n5] at z
    have := nI_inj (b := 0) (by omega) (by decide) z
    omega
  | .inr i0, hR, h =>
    obtain ⟨m1, m2, ⟨m3, m4⟩, m5, m6⟩ := hR.i
    have k1 := (sk_le (a := a) i0)
    have h : ∀ M', fR M M' → RdR M' a (b + 1) (wrdX a 59 i0) → Q 0 M' := h
    unfold wrdX at h
    refine r_here ha m1 m2 (by omega) m4 (fun M1 f1 g1 p1 => ?_)
    generalize sk a i0 = j0 at *
    have R1 : RdR M1 a b (.inr j0) := ⟨by rw [g1 8 (by decide)]; exact m1, fun i hi => by rw [f1.1 123 (by decide)]; exact m2 i hi, ⟨by omega, p1⟩, by rw [g1 11 (by decide)]; exact m5, by rw [g1 9 (by decide)]; exact m6⟩
    have no : ¬ (j0 < a.1 ∧ a.2 j0 = 59) → Cl κ mX11_faults [.ref 119, .int 1, .int (M1 119 10)] M1 (fun _ M2 => G κ mX11_ends 18 [.ref 119] [] M2 Q) := by
      intro z
      rw [if_neg z] at h
      rw [p1]
      refine r_faultsX (n := 1) hb1 ⟨by decide, by decide⟩ (by omega) R1 (fun M2 f2 R2 p2 => bX11_ends_18 ?_)
      rw [p2, nI_1]
      rintro M3 e3
      obtain ⟨q1, q2, _, q4, q5, q6, q7⟩ := R2
      exact h M3 (by rw [e3]; exact (f1.tr f2).pt (.inr (.inl rfl))) ⟨by rw [e3, pt_k _ _ (by decide)]; exact q1, fun i hi => by rw [e3, pt_c _ _ (by decide)]; exact q2 i hi, ⟨j0 + 1, by omega, by rw [e3, pt_s]⟩, by rw [e3, pt_k _ _ (by decide)]; exact q4, q5, by rw [e3, pt_k _ _ (by decide)]; exact q6, q7⟩
    by_cases q : j0 < a.1
    · rw [if_pos q]
      have hl := ha.2 j0 q
      refine ⟨fun e => bX11_ends_18 ?_, fun e => no (fun z => e (by rw [z.2]; rfl))⟩
      rw [if_pos ⟨q, nI_inj (b := 59) (by omega) (by decide) e⟩] at h
      rw [p1, nI_1]
      rintro M3 e3
      exact h M3 (by rw [e3]; exact f1.pt (.inr (.inl rfl))) ⟨by rw [e3, pt_k _ _ (by decide)]; exact R1.1, fun i hi => by rw [e3, pt_c _ _ (by decide)]; exact R1.2.1 i hi, ⟨by omega, by rw [e3, pt_s]⟩, by rw [e3, pt_k _ _ (by decide)]; exact R1.i.2.2.2.1, by rw [e3, pt_k _ _ (by decide)]; exact R1.i.2.2.2.2⟩
    · rw [if_neg q]
      exact ⟨fun e => absurd e (by decide), fun _ => no (fun z => q z.1)⟩
end Town6
