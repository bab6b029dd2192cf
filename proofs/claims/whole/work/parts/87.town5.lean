/-- all the clauses -/
def allX (a : AT) : Nat → Nat → DR → XR × DR
  | 0, i, d => (.inr i, d)
  | k + 1, i, d => if sk a i < a.1 then (match (clX a (sk a i) d).1 with
    | .inl e => (.inl e, d)
    | .inr j => allX a k j (clX a (sk a i) d).2) else (.inr i, d)
section Town5
variable {κ : gK} {M : MM} {Q : Int32 → MM → Prop} {a : AT} {d : DR}
theorem allX_s (k i : Nat) : allX a (k + 1) i d = if sk a i < a.1 then (match (clX a (sk a i) d).1 with
    | .inl e => (.inl e, d)
    | .inr j => allX a k j (clX a (sk a i) d).2) else (.inr i, d) := rfl
theorem num_adv {lo hi i j : Nat} (h : (num a lo hi (.inr i)).1 = .inr j) : i ≤ j := by
  have h : (numX a lo hi i).1 = .inr j := h
  unfold numX at h
  split at h
  · cases h
  · split at h
    · cases h
    · have h : Sum.inr (fe a (sk a i)) = (Sum.inr j : XR) := h
      have := Sum.inr.inj h
      have := (sk_le (a := a) i).1
      have := (fe_le (a := a) (sk a i)).1
      omega
theorem wrd_adv {c i j : Nat} (h : wrd a c (.inr i) = .inr j) : i < j := by
  have h : wrdX a c i = .inr j := h
  unfold wrdX at h
  split at h
  · have := Sum.inr.inj h
    have := (sk_le (a := a) i).1
    omega
  · cases h
theorem lig_ok : ∀ n k i (d : DR) j, n + k = 12 → dOk d → 2 ≤ d.1.1 → d.1.2.2.2.1 = k → (ligX a n k i d).1 = .inr j → dOk (ligX a n k i d).2 ∧ 2 ≤ (ligX a n k i d).2.1.1 ∧ i ≤ j := by
  intro n
  induction n with
  | zero =>
    intro k i d j _ hd hn _ h
    have : i = j := Sum.inr.inj h
    exact ⟨hd, hn, by omega⟩
  | succ n ih =>
    intro k i d j hk hd hn hdk h
    rw [ligX_s] at h ⊢
    have hb : ∀ j, (num a 1 9 (.inr i)).1 = .inr j → 1 ≤ (num a 1 9 (.inr i)).2 ∧ (num a 1 9 (.inr i)).2 ≤ 9 := fun j h => (num_in h).2
    have hv : ∀ j, (num a 1 9 (.inr i)).1 = .inr j → i ≤ j := fun j h => num_adv h
    generalize hr : (num a 1 9 (.inr i)).1 = r at *
    match r, h, hb, hv with
    | .inl e, h, _, _ => cases h
    | .inr j1, h, hb, hv =>
      obtain ⟨b1, b2⟩ := hb j1 rfl
      have hv := hv j1 rfl
      have hs := (sk_le (a := a) j1).1
      obtain ⟨⟨o1, o2, o3, o4, o5⟩, o6⟩ := hd
      have hd' : dOk ((d.1.1, d.1.2.1, d.1.2.2.1, k + 1, d.1.2.2.2.2.1, upN d.1.2.2.2.2.2 k (num a 1 9 (.inr i)).2), d.2) := by
        refine ⟨⟨o1.elim (fun q => absurd q.1 (by omega)) .inr, o2, by show k + 1 ≤ 12; omega, o4, fun q hq => ?_⟩, o6⟩
        have hq : q < k + 1 := hq
        show 1 ≤ upN d.1.2.2.2.2.2 k _ q ∧ upN d.1.2.2.2.2.2 k _ q ≤ 9
        by_cases z : q = k
        · rw [z, upN_s]; exact ⟨b1, b2⟩
        · rw [upN_lt z]; exact o5 q (by omega)
      show dOk (if _ then _ else _ : XR × DR).2 ∧ 2 ≤ (if _ then _ else _ : XR × DR).2.1.1 ∧ i ≤ j
      have h : (if (sk a j1 < a.1 ∧ a.2 (sk a j1) = 44) ∧ k ≠ 11 then ligX a n (k + 1) (sk a j1 + 1) ((d.1.1, d.1.2.1, d.1.2.2.1, k + 1, d.1.2.2.2.2.1, upN d.1.2.2.2.2.2 k (num a 1 9 (.inr i)).2), d.2) else (.inr (sk a j1), ((d.1.1, d.1.2.1, d.1.2.2.1, k + 1, d.1.2.2.2.2.1, upN d.1.2.2.2.2.2 k (num a 1 9 (.inr i)).2), d.2)) : XR × DR).1 = .inr j := h
      by_cases z : (sk a j1 < a.1 ∧ a.2 (sk a j1) = 44) ∧ k ≠ 11
      · rw [if_pos z] at h ⊢
        obtain ⟨q1, q2, q3⟩ := ih (k + 1) (sk a j1 + 1) _ j (by omega) hd' hn rfl h
        exact ⟨q1, q2, by omega⟩
      · rw [if_neg z] at h ⊢
        have : sk a j1 = j := Sum.inr.inj h
        exact ⟨hd', hn, by omega⟩
theorem cl_ok {i j : Nat} (hd : dOk d) (h : (clX a i d).1 = .inr j) : dOk (clX a i d).2 ∧ 2 ≤ (clX a i d).2.1.1 ∧ i < j := by
  unfold clX at *
  have hn0 := hd.1.1
  by_cases c1 : a.2 i = 110
  · rw [if_pos c1] at h ⊢
    by_cases c2 : d.1.1 = 0
    · rw [if_pos c2] at h ⊢
      obtain ⟨q1, q2⟩ := lay_ok hd c2 h
      refine ⟨q1, q2, ?_⟩
      obtain ⟨j2, hj2⟩ := wrd_in h
      obtain ⟨⟨j1, hj1⟩, _⟩ := num_in hj2
      have a1 := num_adv hj1
      rw [hj1] at hj2
      have a2 := num_adv hj2
      have h : wrd a 59 (num a 0 ((num a 2 9 (.inr (i + 1))).2 - 1) (num a 2 9 (.inr (i + 1))).1).1 = .inr j := h
      rw [hj1, hj2] at h
      have a3 := wrd_adv h
      omega
    · rw [if_neg c2] at h; cases h
  · rw [if_neg c1] at h ⊢
    by_cases c2 : d.1.1 = 0
    · rw [if_pos c2] at h; cases h
    · have hn : 2 ≤ d.1.1 := by omega
      rw [if_neg c2] at h ⊢
      by_cases c3 : a.2 i = 112
      · rw [if_pos c3] at h ⊢
        by_cases c4 : d.1.2.2.1 < 8
        · rw [if_pos c4] at h ⊢
          obtain ⟨q1, q2⟩ := per_ok hd hn c4 h
          refine ⟨q1, q2, ?_⟩
          obtain ⟨j3, hj3⟩ := wrd_in h
          obtain ⟨⟨j2, hj2⟩, _⟩ := num_in hj3
          obtain ⟨⟨j1, hj1⟩, _⟩ := num_in hj2
          have a1 := num_adv hj1
          rw [hj1] at hj2 hj3
          have a2 := num_adv hj2
          rw [hj2] at hj3
          have a3 := num_adv hj3
          have h : wrd a 59 (num a 0 9 (num a 0 (d.1.1 - 1) (num a 0 4 (.inr (i + 1))).1).1).1 = .inr j := h
          rw [hj1, hj2, hj3] at h
          have a4 := wrd_adv h
          omega
        · rw [if_neg c4] at h; cases h
      · rw [if_neg c3] at h ⊢
        by_cases c5 : a.2 i = 109
        · rw [if_pos c5] at h ⊢
          by_cases c6 : d.1.2.2.2.1 = 0
          · rw [if_pos c6] at h ⊢
            have h : wrd a 59 (ligX a 12 0 (i + 1) d).1 = .inr j := h
            obtain ⟨j1, hj1⟩ := wrd_in h
            obtain ⟨q1, q2, q3⟩ := lig_ok 12 0 (i + 1) d j1 rfl hd hn c6 hj1
            rw [hj1] at h
            have := wrd_adv h
            exact ⟨q1, q2, by omega⟩
          · rw [if_neg c6] at h; cases h
        · rw [if_neg c5] at h; cases h
theorem s_readClause {i : Nat} (ha : aOk a) (hi : i < a.1) (hd : dOk d) (hR : RdC M a (.inr i)) (hD : DrC M d) (h : ∀ M', fr 6 12 M M' → ClC M' a (clX a i d) → Q 0 M') : Cl κ mX5_readClause [.ref 11, .ref 6] M Q := by
  have hl := ha.2 i hi
  have hat := hR.i.2.2.1.2
  have hn0 := hd.1.1
  refine eX5_readClause 6 (bX5_readClause_0 6 twO_6 (s_letterHere ha hR.1 hR.2.1 hR.i.2.2.1.1 hat ?_))
  rw [if_pos hi]
  unfold clX at h
  have bl : (∀ M', fr 6 12 M M' → ClC M' a (.inl (1, i), d) → Q 0 M') → Cl κ mX5_blame [.ref 11, .int 1, .int (nI i)] M (fun _ M4 => G κ mX5_readClause 75 [.null, .null, .null] [] M4 Q) := fun h =>
    s_blameX (n := 1) ⟨by decide, by decide⟩ hR (fun M' f' r' => bX5_readClause_75 6 twO_6 (h M' (f'.up (by omega) (by omega)) ⟨r', fun j hj => by cases hj⟩))
  refine ⟨fun c => ?_, fun c => ?_⟩
  · rw [if_pos (nI_inj (b := 110) (by omega) (by decide) c)] at h
    exact s_readLayers ha hi hd hR hD (fun M' f' r' => bX5_readClause_75 6 twO_6 (h M' f' r'))
  · rw [if_neg (fun q => c (by rw [q]; rfl))] at h
    refine s_isThere twO_6 hD.1 hd.1 (fun hn => b1 ?_) (fun hz => b0 ?_)
    · rw [if_neg (by omega)] at h
      refine ⟨fun c => ?_, fun c => ⟨fun c2 => ?_, fun c2 => ?_⟩⟩
      · rw [if_pos (nI_inj (b := 112) (by omega) (by decide) c)] at h
        exact s_readPerson ha hi hd hn hR hD (fun M' f' r' => bX5_readClause_75 6 twO_6 (h M' f' r'))
      · rw [if_neg (fun q => c (by rw [q]; rfl)), if_pos (nI_inj (b := 109) (by omega) (by decide) c2)] at h
        exact s_readLights ha hi hd hn hR hD (fun M' f' r' => bX5_readClause_75 6 twO_6 (h M' f' r'))
      · rw [if_neg (fun q => c (by rw [q]; rfl)), if_neg (fun q => c2 (by rw [q]; rfl))] at h
        rw [hat]; exact bl h
    · rw [if_pos hz] at h
      rw [hat]; exact bl h
def d0 : DR := ((0, 0, 0, 0, fun _ => 0, fun _ => 0), fun _ => 0, fun _ => 0)
theorem d0_ok : dOk d0 := ⟨⟨.inl ⟨rfl, rfl, rfl, rfl⟩, by decide, by decide, fun p hp => absurd hp (Nat.not_lt_zero _), fun p hp => absurd hp (Nat.not_lt_zero _)⟩, fun p hp => absurd hp (Nat.not_lt_zero _)⟩
/-- what reading leaves in the class's cells -/
def FiC (M : MM) (r : XR × DR) : Prop := (∀ e, r.1 = .inl e → M 11 3 = nI e.1 ∧ (0 < e.1 ∧ e.1 < 4) ∧ M 11 4 = nI e.2) ∧ ∀ j, r.1 = .inr j → M 11 3 = nI 0 ∧ M 11 4 = -1 ∧ DrC M r.2
theorem s_readInto (ha : aOk a) (hT : TxC M a) (h : ∀ M', fr 6 12 M M' → M' 11 1 = nI 0 → FiC M' (allX a 240 0 d0) → Q (M' 11 3) M') : Cl κ mX5_readInto [.ref 11, .ref 6] M Q := by
  have h240 := ha.1
  refine eX5_readInto 6 (bX5_readInto_0 6 twO_6 (eX9_clear 6 (bX9_clear_0 6 twO_6 ?_)))
  rintro N1 n1 N2 n2 N3 n3 N4 n4 M2 e2 M3 e3 M4 e4
  have f4 : fr 6 12 M M4 := by
    rw [e4, e3, e2, n4, n3, n2, n1]
    exact ((((((fr.rf.pt (by omega) (by omega)).pt (by omega) (by omega)).pt (by omega) (by omega)).pt (by omega) (by omega)).pt (by omega) (by omega)).pt (by omega) (by omega)).pt (by omega) (by omega)
  have t1 : M4 11 1 = nI a.1 := by rw [e4, pt_k _ _ (by decide), e3, pt_k _ _ (by decide), e2, pt_k _ _ (by decide), n4, pt_c _ _ (by decide), n3, pt_c _ _ (by decide), n2, pt_c _ _ (by decide), n1, pt_c _ _ (by decide)]; exact hT.1
  have t2 : ∀ i, i < a.1 → M4 12 i = nI (a.2 i) := fun i hi => by rw [f4 12 (by omega)]; exact hT.2 i hi
  have t3 : M4 11 2 = nI 0 := by rw [e4, pt_k _ _ (by decide), e3, pt_k _ _ (by decide), e2, pt_s]; rfl
  have R4 : RdC M4 a (.inr 0) := ⟨t1, t2, ⟨Nat.zero_le _, t3⟩, by rw [e4, pt_k _ _ (by decide), e3, pt_s]; rfl, by rw [e4, pt_s]⟩
  have c6 : M4 6 = N4 6 := by rw [e4, pt_c _ _ (by decide), e3, pt_c _ _ (by decide), e2, pt_c _ _ (by decide)]
  have D4 : DrC M4 d0 := by
    refine ⟨Tw6 ?_ ?_ ?_ ?_ (fun p hp => absurd hp (Nat.not_lt_zero _)) (fun p hp => absurd hp (Nat.not_lt_zero _)), fun p hp => absurd hp (Nat.not_lt_zero _)⟩
    · rw [c6, n4, pt_k _ _ (by decide), n3, pt_k _ _ (by decide), n2, pt_k _ _ (by decide), n1, pt_s]; rfl
    · rw [c6, n4, pt_k _ _ (by decide), n3, pt_k _ _ (by decide), n2, pt_s]; rfl
    · rw [c6, n4, pt_k _ _ (by decide), n3, pt_s]; rfl
    · rw [c6, n4, pt_s]; rfl
  have last : ∀ M' r, fr 6 12 M M' → (∀ M'', fr 6 12 M M'' → M'' 11 1 = nI 0 → FiC M'' r → Q (M'' 11 3) M'') → FiC M' r → G κ mX5_readInto 65 [.ref 11, .null, .null] [] M' Q := by
    intro M' r f' hq hF
    refine bX5_readInto_65 6 twO_6 ?_
    rintro M1 e1
    refine hq M1 (by rw [e1]; exact f'.pt (by omega) (by omega)) (by rw [e1, pt_s]; rfl) ⟨fun e he => ?_, fun j hj => ?_⟩
    · obtain ⟨q1, q2, q3⟩ := hF.1 e he
      exact ⟨by rw [e1, pt_k _ _ (by decide)]; exact q1, q2, by rw [e1, pt_k _ _ (by decide)]; exact q3⟩
    · obtain ⟨q1, q2, q3⟩ := hF.2 j hj
      exact ⟨by rw [e1, pt_k _ _ (by decide)]; exact q1, by rw [e1, pt_k _ _ (by decide)]; exact q2, q3.f11 (by rw [e1]; exact fr.rf.pt (by omega) (by omega))⟩
  refine s_skipBlanks ha t1 t2 (Nat.zero_le _) t3 (fun M5 f5 g5 p5 => ?_)
  refine up_ind 240 (fun k => ∀ i (d : DR) M', fr 6 12 M M' → RdC M' a (.inr (sk a i)) → DrC M' d → dOk d → (∀ M'', fr 6 12 M M'' → M'' 11 1 = nI 0 → FiC M'' (allX a (240 - k) i d) → Q (M'' 11 3) M'') → G κ mX5_readInto 25 [.ref 11, .ref 6, .int (nI k)] [] M' Q) ?_ ?_ 0 (by decide) 0 d0 M5 (f4.tr (f5.up (by omega) (by omega))) (R4.sk f5 g5 p5) (D4.f11 f5) d0_ok h
  · intro i d M' f' R' D' hd hq
    exact bX5_readInto_25 6 twO_6 _ ⟨fun _ => last M' _ f' hq ⟨fun e he => (by cases he), fun j hj => ⟨R'.i.2.2.2.1, R'.i.2.2.2.2, D'⟩⟩, fun c => absurd (by decide) c⟩
  · intro k hk ih i d M' f' R' D' hd hq
    rw [show 240 - k = (240 - (k + 1)) + 1 by omega, allX_s] at hq
    refine bX5_readInto_25 6 twO_6 _ ⟨fun c => absurd c (nI_ge (b := 240) hk (by decide)), fun _ => ?_⟩
    rw [R'.1, R'.i.2.2.1.2]
    have hs := R'.i.2.2.1.1
    refine ⟨fun c => ?_, fun c => ⟨fun _ => ?_, fun z => absurd R'.i.2.2.2.1 z⟩⟩
    · have c := (nI_leI (by omega) (by omega)).mp c
      rw [if_neg (by omega)] at hq
      exact last M' _ f' hq ⟨fun e he => (by cases he), fun j hj => ⟨R'.i.2.2.2.1, R'.i.2.2.2.2, D'⟩⟩
    · have c : sk a i < a.1 := by
        rcases Nat.lt_or_ge (sk a i) a.1 with y | y
        · exact y
        · exact absurd (nI_le y (by omega)) c
      rw [if_pos c] at hq
      refine s_readClause ha c hd R' D' (fun M1 f1 r1 => ?_)
      have ok : ∀ j, (clX a (sk a i) d).1 = .inr j → dOk (clX a (sk a i) d).2 := fun j h => (cl_ok hd h).1
      obtain ⟨r11, r12⟩ := r1
      generalize hr : (clX a (sk a i) d).1 = x at *
      match x, r11, r12, ok, hq with
      | .inl e, r11, _, _, hq =>
        obtain ⟨⟨i4, hi4, p4⟩, q3, q4, q5⟩ := r11.2.2
        refine s_skipBlanks ha r11.1 r11.2.1 hi4 p4 (fun M2 f2 g2 p2 => ?_)
        have fin := last M2 (.inl e, d) ((f'.tr f1).tr (f2.up (by omega) (by omega))) hq ⟨fun e' he' => by
          have : e = e' := Sum.inl.inj he'
          subst this
          exact ⟨by rw [g2 3 (by decide)]; exact q3, q4, by rw [g2 4 (by decide)]; exact q5⟩, fun j hj => (by cases hj)⟩
        refine bX5_readInto_25 6 twO_6 _ ⟨fun _ => fin, fun _ => ⟨fun _ => fin, fun _ => ⟨fun z => ?_, fun _ => fin⟩⟩⟩
        rw [g2 3 (by decide), q3] at z
        have := nI_inj (b := 0) (by omega) (by decide) z
        omega
      | .inr j, r11, r12, ok, hq =>
        have o1 := ok j rfl
        obtain ⟨m1, m2, ⟨m3, m4⟩, m5, m6⟩ := r11.i
        refine s_skipBlanks ha m1 m2 m3 m4 (fun M2 f2 g2 p2 => ?_)
        rw [nI_1]
        exact ih j _ M2 ((f'.tr f1).tr (f2.up (by omega) (by omega))) (r11.sk f2 g2 p2) ((r12 j rfl).f11 f2) o1 hq
end Town5
