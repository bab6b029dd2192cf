/-! CLAUSES: a draft d = (town, where persons start, how they hear) -/
abbrev DR : Type := TW × (Nat → Nat) × (Nat → Nat)
def dOk (d : DR) : Prop := twOk d.1 ∧ ∀ p, p < d.1.2.2.1 → d.2.1 p < d.1.1 ∧ d.2.2 p ≤ 9
def layX (a : AT) (i : Nat) (d : DR) : XR × DR := (wrd a 59 (num a 0 ((num a 2 9 (.inr i)).2 - 1) (num a 2 9 (.inr i)).1).1, ((num a 2 9 (.inr i)).2, (num a 0 ((num a 2 9 (.inr i)).2 - 1) (num a 2 9 (.inr i)).1).2, d.1.2.2), d.2)
def perX (a : AT) (i : Nat) (d : DR) : XR × DR :=
  (wrd a 59 (num a 0 9 (num a 0 (d.1.1 - 1) (num a 0 4 (.inr i)).1).1).1, (d.1.1, d.1.2.1, d.1.2.2.1 + 1, d.1.2.2.2.1, upN d.1.2.2.2.2.1 d.1.2.2.1 (num a 0 4 (.inr i)).2, d.1.2.2.2.2.2), upN d.2.1 d.1.2.2.1 (num a 0 (d.1.1 - 1) (num a 0 4 (.inr i)).1).2, upN d.2.2 d.1.2.2.1 (num a 0 9 (num a 0 (d.1.1 - 1) (num a 0 4 (.inr i)).1).1).2)
def ligX (a : AT) : Nat → Nat → Nat → DR → XR × DR
  | 0, _, i, d => (.inr i, d)
  | n + 1, k, i, d => match (num a 1 9 (.inr i)).1 with
    | .inl e => (.inl e, d)
    | .inr j => if (sk a j < a.1 ∧ a.2 (sk a j) = 44) ∧ k ≠ 11 then ligX a n (k + 1) (sk a j + 1) ((d.1.1, d.1.2.1, d.1.2.2.1, k + 1, d.1.2.2.2.2.1, upN d.1.2.2.2.2.2 k (num a 1 9 (.inr i)).2), d.2) else (.inr (sk a j), ((d.1.1, d.1.2.1, d.1.2.2.1, k + 1, d.1.2.2.2.2.1, upN d.1.2.2.2.2.2 k (num a 1 9 (.inr i)).2), d.2))
def clX (a : AT) (i : Nat) (d : DR) : XR × DR :=
  if a.2 i = 110 then (if d.1.1 = 0 then layX a (i + 1) d else (.inl (3, i), d))
  else if d.1.1 = 0 then (.inl (1, i), d)
  else if a.2 i = 112 then (if d.1.2.2.1 < 8 then perX a (i + 1) d else (.inl (3, i), d))
  else if a.2 i = 109 then (if d.1.2.2.2.1 = 0 then (wrd a 59 (ligX a 12 0 (i + 1) d).1, (ligX a 12 0 (i + 1) d).2) else (.inl (3, i), d))
  else (.inl (1, i), d)
section Town3
variable {κ : gK} {M : MM} {Q : Int32 → MM → Prop} {a : AT} {d : DR}
def DrC (M : MM) (d : DR) : Prop := Tw M 6 d.1 ∧ ∀ p, p < d.1.2.2.1 → M 8 p = nI (d.2.1 p) ∧ M 9 p = nI (d.2.2 p)
theorem DrC.f11 {M M' : MM} (h : DrC M d) (f : f11 M M') : DrC M' d := ⟨h.1.kept (f 6 (by omega)) (f 7 (by omega)) (f 10 (by omega)), fun p hp => by rw [f 8 (by omega), f 9 (by omega)]; exact h.2 p hp⟩
theorem RdC.kp {M M' : MM} {x : XR} (h : RdC M a x) (h1 : M' 11 = M 11) (h2 : M' 12 = M 12) : RdC M' a x := by
  unfold RdC at *
  rw [h1, h2]; exact h
theorem num_in {lo hi : Nat} {x : XR} {j : Nat} (h : (num a lo hi x).1 = .inr j) : (∃ i, x = .inr i) ∧ lo ≤ (num a lo hi x).2 ∧ (num a lo hi x).2 ≤ hi := by
  match x, h with
  | .inl e, h => cases h
  | .inr i, h =>
    refine ⟨⟨i, rfl⟩, ?_⟩
    have h : (numX a lo hi i).1 = .inr j := h
    show lo ≤ (numX a lo hi i).2 ∧ (numX a lo hi i).2 ≤ hi
    unfold numX at *
    split at h
    · cases h
    · split at h
      · cases h
      · rename_i q1 q2
        rw [if_neg q1, if_neg q2]
        show lo ≤ vl a _ _ ∧ vl a _ _ ≤ hi
        omega
theorem wrd_in {c : Nat} {x : XR} {j : Nat} (h : wrd a c x = .inr j) : ∃ i, x = .inr i := by
  match x, h with
  | .inl e, h => cases h
  | .inr i, h => exact ⟨i, rfl⟩
theorem Tw6 {t : TW} (h4 : M 6 4 = nI t.1) (h5 : M 6 5 = nI t.2.1) (h6 : M 6 6 = nI t.2.2.1) (h7 : M 6 7 = nI t.2.2.2.1) (hk : ∀ p, p < t.2.2.1 → M 7 p = nI (t.2.2.2.2.1 p)) (hl : ∀ k, k < t.2.2.2.1 → M 10 k = nI (t.2.2.2.2.2 k)) : Tw M 6 t := ⟨h4, h5, h6, h7, hk, hl⟩
theorem s_blameX {n i : Nat} (hn : 0 < n ∧ n < 4) (hR : RdC M a (.inr i)) (h : ∀ M', f11 M M' → RdC M' a (.inl (n, i)) → Q 0 M') : Cl κ mX5_blame [.ref 11, .int (nI n), .int (nI i)] M Q := by
  obtain ⟨m1, m2, ⟨m3, m4⟩, m5, m6⟩ := hR.i
  exact s_blame (fun _ M2 f2 g2 p2 w2 => h M2 f2 ⟨by rw [g2 1 (by decide) (by decide)]; exact m1, fun i hi => by rw [f2 12 (by omega)]; exact m2 i hi, ⟨i, m3, by rw [g2 2 (by decide) (by decide)]; exact m4⟩, p2, hn, w2⟩) (fun c => absurd m5 c)
theorem RdC.up {M' : MM} {i : Nat} (hR : RdC M a (.inr i)) (hi : i < a.1) (e : M' = pt M 11 2 (M 11 2 + 1)) : RdC M' a (.inr (i + 1)) ∧ f11 M M' := by
  obtain ⟨m1, m2, ⟨m3, m4⟩, m5, m6⟩ := hR.i
  rw [m4, nI_1] at e
  exact ⟨⟨by rw [e, pt_k _ _ (by decide)]; exact m1, fun i hi => by rw [e, pt_c _ _ (by decide)]; exact m2 i hi, ⟨by omega, by rw [e, pt_s]⟩, by rw [e, pt_k _ _ (by decide)]; exact m5, by rw [e, pt_k _ _ (by decide)]; exact m6⟩, by rw [e]; exact fr.rf.pt (by omega) (by omega)⟩
/-- what a clause leaves: the reader's state, and the draft if there is no fault -/
def ClC (M : MM) (a : AT) (r : XR × DR) : Prop := RdC M a r.1 ∧ ∀ j, r.1 = .inr j → DrC M r.2
theorem s_readLayers {i : Nat} (ha : aOk a) (hi : i < a.1) (hd : dOk d) (hR : RdC M a (.inr i)) (hD : DrC M d) (h : ∀ M', fr 6 12 M M' → ClC M' a (if d.1.1 = 0 then layX a (i + 1) d else (.inl (3, i), d)) → Q 0 M') : Cl κ mX5_readLayers [.ref 11, .ref 6] M Q := by
  refine eX5_readLayers 6 (bX5_readLayers_0 6 twO_6 (s_isThere twO_6 hD.1 hd.1 (fun hn => b1 ?_) (fun hz => b0 ?_)))
  · rw [if_neg (by omega)] at h
    rw [hR.i.2.2.1.2]
    exact s_blameX (n := 3) ⟨by decide, by decide⟩ hR (fun M' f' r' => h M' (f'.up (by omega) (by omega)) ⟨r', fun j hj => by cases hj⟩)
  · rw [if_pos hz] at h
    rintro M2 e2
    obtain ⟨R2, f2⟩ := hR.up hi e2
    refine s_readNumber (lo := 2) (hi := 9) _ ha R2 (fun _ _ => ⟨rfl, rfl, by decide, by decide⟩) (fun M3 r3 f3 R3 v3 => ?_)
    rintro M4 e4
    have R4 : RdC M4 a (num a 2 9 (.inr (i + 1))).1 := R3.kp (by rw [e4, pt_c _ _ (by decide)]) (by rw [e4, pt_c _ _ (by decide)])
    refine s_readNumber (lo := 0) (hi := (num a 2 9 (.inr (i + 1))).2 - 1) _ ha R4 (fun j hj => ?_) (fun M5 r5 f5 R5 v5 => ?_)
    · have hb := num_in hj
      refine ⟨rfl, ?_, by decide, by omega⟩
      rw [e4, pt_s, v3 j hj, show (1 : Int32) = nI 1 from rfl, pk_sub (by omega)]
    · rintro M6 e6
      have R6 : RdC M6 a (num a 0 ((num a 2 9 (.inr (i + 1))).2 - 1) (num a 2 9 (.inr (i + 1))).1).1 := R5.kp (by rw [e6, pt_c _ _ (by decide)]) (by rw [e6, pt_c _ _ (by decide)])
      refine s_readWord (c := 59) _ (by decide) ha R6 (fun M7 f7 R7 => h M7 ?_ ⟨R7, fun j hj => ?_⟩)
      · refine fr.tr ?_ (f7.up (by omega) (by omega))
        rw [e6]
        refine fr.pt ?_ (by omega) (by omega)
        refine fr.tr ?_ (f5.up (by omega) (by omega))
        rw [e4]
        exact fr.pt ((f2.tr f3).up (by omega) (by omega)) (by omega) (by omega)
      · obtain ⟨j2, hj2⟩ := wrd_in hj
        obtain ⟨⟨j1, hj1⟩, _⟩ := num_in hj2
        have kc : ∀ c, c ≠ 6 → c ≠ 11 → M7 c = M c := fun c c1 c2 => by rw [f7 c (by omega), e6, pt_c _ _ c1, f5 c (by omega), e4, pt_c _ _ c1, f3 c (by omega), f2 c (by omega)]
        have k6 : ∀ k, k ≠ 4 → k ≠ 5 → M7 6 k = M 6 k := fun k c1 c2 => by rw [f7 6 (by omega), e6, pt_k _ _ c2, f5 6 (by omega), e4, pt_k _ _ c1, f3 6 (by omega), f2 6 (by omega)]
        have hz2 := hd.1.1
        have hP0 : d.1.2.2.1 = 0 ∧ d.1.2.2.2.1 = 0 := by omega
        refine ⟨Tw6 ?_ ?_ (by rw [k6 6 (by decide) (by decide)]; exact hD.1.2.2.1) (by rw [k6 7 (by decide) (by decide)]; exact hD.1.2.2.2.1) (fun p hp => ?_) (fun k hk => ?_), fun p hp => ?_⟩
        · show M7 6 4 = nI (num a 2 9 (.inr (i + 1))).2
          rw [f7 6 (by omega), e6, pt_k _ _ (by decide), f5 6 (by omega), e4, pt_s, v3 j1 hj1]
        · show M7 6 5 = nI (num a 0 ((num a 2 9 (.inr (i + 1))).2 - 1) (num a 2 9 (.inr (i + 1))).1).2
          rw [f7 6 (by omega), e6, pt_s, v5 j2 hj2]
        · exact absurd (show p < d.1.2.2.1 from hp) (by omega)
        · exact absurd (show k < d.1.2.2.2.1 from hk) (by omega)
        · exact absurd (show p < d.1.2.2.1 from hp) (by omega)
theorem lay_ok {i j : Nat} (hd : dOk d) (hz : d.1.1 = 0) (h : (layX a i d).1 = .inr j) : dOk (layX a i d).2 ∧ 2 ≤ (layX a i d).2.1.1 := by
  obtain ⟨j2, hj2⟩ := wrd_in h
  obtain ⟨⟨j1, hj1⟩, b1, b2⟩ := num_in hj2
  obtain ⟨_, b3, b4⟩ := num_in hj1
  have hz2 := hd.1.1
  have hP0 : d.1.2.2.1 = 0 ∧ d.1.2.2.2.1 = 0 := by omega
  refine ⟨⟨⟨.inr ⟨b3, b4, ?_⟩, hd.1.2.1, hd.1.2.2.1, hd.1.2.2.2.1, hd.1.2.2.2.2⟩, fun p hp => ?_⟩, b3⟩
  · show (num a 0 ((num a 2 9 (.inr i)).2 - 1) (num a 2 9 (.inr i)).1).2 < (num a 2 9 (.inr i)).2
    omega
  · exact absurd (show p < d.1.2.2.1 from hp) (by omega)
end Town3
