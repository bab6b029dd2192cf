section Town4
variable {κ : gK} {M : MM} {Q : Int32 → MM → Prop} {a : AT} {d : DR}
theorem s_readPerson {i : Nat} (ha : aOk a) (hi : i < a.1) (hd : dOk d) (hn : 2 ≤ d.1.1) (hR : RdC M a (.inr i)) (hD : DrC M d) (h : ∀ M', fr 6 12 M M' → ClC M' a (if d.1.2.2.1 < 8 then perX a (i + 1) d else (.inl (3, i), d)) → Q 0 M') : Cl κ mX5_readPerson [.ref 11, .ref 6] M Q := by
  have h8 := hd.1.2.1
  have h9 := hd.1.n9
  refine eX5_readPerson 6 (bX5_readPerson_0 6 twO_6 ?_)
  rw [hD.1.2.2.1]
  refine ⟨fun c => ?_, fun c => ?_⟩
  · have c := (nI_ltI (b := 8) (by omega) (by decide)).mp c
    rw [if_pos c] at h
    rintro M1 e1
    obtain ⟨R1, f1⟩ := hR.up hi e1
    have p1 : M1 6 6 = nI d.1.2.2.1 := by rw [f1 6 (by omega)]; exact hD.1.2.2.1
    rw [p1, t8 c]
    refine s_readNumber (lo := 0) (hi := 4) _ ha R1 (fun _ _ => ⟨rfl, rfl, by decide, by decide⟩) (fun M2 r2 f2 R2 v2 => ⟨v8 c, ?_⟩)
    rintro M3 e3
    have R3 : RdC M3 a (num a 0 4 (.inr (i + 1))).1 := R2.kp (by rw [e3, pt_c _ _ (by decide)]) (by rw [e3, pt_c _ _ (by decide)])
    have n3 : M3 6 4 = nI d.1.1 := by rw [e3, pt_c _ _ (by decide), f2 6 (by omega), f1 6 (by omega)]; exact hD.1.1
    refine s_readNumber (lo := 0) (hi := d.1.1 - 1) _ ha R3 (fun _ _ => ⟨rfl, by rw [n3, show (1 : Int32) = nI 1 from rfl, pk_sub (by omega)], by decide, by omega⟩) (fun M4 r4 f4 R4 v4 => ?_)
    rintro M5 e5
    have R5 : RdC M5 a (num a 0 (d.1.1 - 1) (num a 0 4 (.inr (i + 1))).1).1 := R4.kp (by rw [e5, pt_c _ _ (by decide)]) (by rw [e5, pt_c _ _ (by decide)])
    refine s_readNumber (lo := 0) (hi := 9) _ ha R5 (fun _ _ => ⟨rfl, rfl, by decide, by decide⟩) (fun M6 r6 f6 R6 v6 => ?_)
    rintro M7 e7
    have R7 : RdC M7 a (num a 0 9 (num a 0 (d.1.1 - 1) (num a 0 4 (.inr (i + 1))).1).1).1 := R6.kp (by rw [e7, pt_c _ _ (by decide)]) (by rw [e7, pt_c _ _ (by decide)])
    refine s_readWord (c := 59) _ (by decide) ha R7 (fun M8 f8 R8 => ?_)
    rintro M9 e9
    have kc : ∀ c, c ≠ 7 → c ≠ 8 → c ≠ 9 → c ≠ 11 → M8 c = M c := fun c c1 c2 c3 c4 => by rw [f8 c (by omega), e7, pt_c _ _ c3, f6 c (by omega), e5, pt_c _ _ c2, f4 c (by omega), e3, pt_c _ _ c1, f2 c (by omega), f1 c (by omega)]
    refine h M9 (fun c hc => ?_) ⟨R8.kp (by rw [e9, pt_c _ _ (by decide)]) (by rw [e9, pt_c _ _ (by decide)]), fun j hj => ?_⟩
    · rw [e9, pt_c _ _ (by omega), kc c (by omega) (by omega) (by omega) (by omega)]
    · obtain ⟨j3, hj3⟩ := wrd_in hj
      obtain ⟨⟨j2, hj2⟩, _⟩ := num_in hj3
      obtain ⟨⟨j1, hj1⟩, _⟩ := num_in hj2
      have q7 : ∀ p, M9 7 p = if p = d.1.2.2.1 then r2 else M 7 p := by
        intro p
        rw [e9, pt_c _ _ (by decide), f8 7 (by omega), e7, pt_c _ _ (by decide), f6 7 (by omega), e5, pt_c _ _ (by decide), f4 7 (by omega), e3]
        by_cases z : p = d.1.2.2.1
        · rw [if_pos z, z, pt_s]
        · rw [if_neg z, pt_k _ _ z, f2 7 (by omega), f1 7 (by omega)]
      have q8 : ∀ p, M9 8 p = if p = d.1.2.2.1 then r4 else M 8 p := by
        intro p
        rw [e9, pt_c _ _ (by decide), f8 8 (by omega), e7, pt_c _ _ (by decide), f6 8 (by omega), e5]
        by_cases z : p = d.1.2.2.1
        · rw [if_pos z, z, pt_s]
        · rw [if_neg z, pt_k _ _ z, f4 8 (by omega), e3, pt_c _ _ (by decide), f2 8 (by omega), f1 8 (by omega)]
      have q9 : ∀ p, M9 9 p = if p = d.1.2.2.1 then r6 else M 9 p := by
        intro p
        rw [e9, pt_c _ _ (by decide), f8 9 (by omega), e7]
        by_cases z : p = d.1.2.2.1
        · rw [if_pos z, z, pt_s]
        · rw [if_neg z, pt_k _ _ z, f6 9 (by omega), e5, pt_c _ _ (by decide), f4 9 (by omega), e3, pt_c _ _ (by decide), f2 9 (by omega), f1 9 (by omega)]
      have q6 : ∀ k, k ≠ 6 → M9 6 k = M 6 k := fun k hk => by rw [e9, pt_k _ _ hk, kc 6 (by decide) (by decide) (by decide) (by decide)]
      have up : ∀ (g : Nat → Nat) (v : Nat) (r : Int32) (c : Nat), (∀ p, M9 c p = if p = d.1.2.2.1 then r else M c p) → r = nI v → (∀ p, p < d.1.2.2.1 → M c p = nI (g p)) → ∀ p, p < d.1.2.2.1 + 1 → M9 c p = nI (upN g d.1.2.2.1 v p) := by
        intro g v r c hq hr hg p hp
        rw [hq]
        by_cases z : p = d.1.2.2.1
        · rw [if_pos z, z, upN_s, hr]
        · rw [if_neg z, upN_lt z]; exact hg p (by omega)
      refine ⟨Tw6 (by rw [q6 4 (by decide)]; exact hD.1.1) (by rw [q6 5 (by decide)]; exact hD.1.2.1) ?_ (by rw [q6 7 (by decide)]; exact hD.1.2.2.2.1) (up _ _ r2 7 q7 (v2 j1 hj1) hD.1.2.2.2.2.1) (fun k hk => ?_), fun p hp => ⟨up _ _ r4 8 q8 (v4 j2 hj2) (fun p hp => (hD.2 p hp).1) p hp, up _ _ r6 9 q9 (v6 j3 hj3) (fun p hp => (hD.2 p hp).2) p hp⟩⟩
      · show M9 6 6 = nI (d.1.2.2.1 + 1)
        rw [e9, pt_s, kc 6 (by decide) (by decide) (by decide) (by decide), hD.1.2.2.1, nI_1]
      · rw [e9, pt_c _ _ (by decide), kc 10 (by decide) (by decide) (by decide) (by decide)]
        exact hD.1.2.2.2.2.2 k hk
  · have c : ¬ d.1.2.2.1 < 8 := fun q => c (nI_lt (b := 8) q (by decide))
    rw [if_neg c] at h
    rw [hR.i.2.2.1.2]
    exact s_blameX (n := 3) ⟨by decide, by decide⟩ hR (fun M' f' r' => h M' (f'.up (by omega) (by omega)) ⟨r', fun j hj => by cases hj⟩)
theorem per_ok {i j : Nat} (hd : dOk d) (hn : 2 ≤ d.1.1) (h8 : d.1.2.2.1 < 8) (h : (perX a i d).1 = .inr j) : dOk (perX a i d).2 ∧ 2 ≤ (perX a i d).2.1.1 := by
  obtain ⟨j3, hj3⟩ := wrd_in h
  obtain ⟨⟨j2, hj2⟩, _, b3⟩ := num_in hj3
  obtain ⟨⟨j1, hj1⟩, _, b2⟩ := num_in hj2
  obtain ⟨_, _, b1⟩ := num_in hj1
  obtain ⟨⟨o1, o2, o3, o4, o5⟩, o6⟩ := hd
  refine ⟨⟨⟨o1.elim (fun q => absurd q.1 (by omega)) .inr, h8, o3, fun p hp => ?_, o5⟩, fun p hp => ⟨?_, ?_⟩⟩, hn⟩
  · show upN d.1.2.2.2.2.1 d.1.2.2.1 _ p ≤ 4
    have hp : p < d.1.2.2.1 + 1 := hp
    by_cases z : p = d.1.2.2.1
    · rw [z, upN_s]; exact b1
    · rw [upN_lt z]; exact o4 p (by omega)
  · show upN d.2.1 d.1.2.2.1 _ p < d.1.1
    have hp : p < d.1.2.2.1 + 1 := hp
    by_cases z : p = d.1.2.2.1
    · rw [z, upN_s]; omega
    · rw [upN_lt z]; exact (o6 p (by omega)).1
  · show upN d.2.2 d.1.2.2.1 _ p ≤ 9
    have hp : p < d.1.2.2.1 + 1 := hp
    by_cases z : p = d.1.2.2.1
    · rw [z, upN_s]; exact b3
    · rw [upN_lt z]; exact (o6 p (by omega)).2
theorem ligX_s (n k i : Nat) : ligX a (n + 1) k i d = match (num a 1 9 (.inr i)).1 with
    | .inl e => (.inl e, d)
    | .inr j => if (sk a j < a.1 ∧ a.2 (sk a j) = 44) ∧ k ≠ 11 then ligX a n (k + 1) (sk a j + 1) ((d.1.1, d.1.2.1, d.1.2.2.1, k + 1, d.1.2.2.2.2.1, upN d.1.2.2.2.2.2 k (num a 1 9 (.inr i)).2), d.2) else (.inr (sk a j), ((d.1.1, d.1.2.1, d.1.2.2.1, k + 1, d.1.2.2.2.2.1, upN d.1.2.2.2.2.2 k (num a 1 9 (.inr i)).2), d.2)) := rfl
theorem RdC.sk {M' : MM} {j : Nat} (hR : RdC M a (.inr j)) (f : f11 M M') (g : ∀ k, k ≠ 2 → M' 11 k = M 11 k) (p : M' 11 2 = nI (sk a j)) : RdC M' a (.inr (sk a j)) := by
  obtain ⟨m1, m2, ⟨m3, m4⟩, m5, m6⟩ := hR.i
  exact ⟨by rw [g 1 (by decide)]; exact m1, fun i hi => by rw [f 12 (by omega)]; exact m2 i hi, ⟨(sk_le j).2.1 m3, p⟩, by rw [g 3 (by decide)]; exact m5, by rw [g 4 (by decide)]; exact m6⟩
theorem s_readLights {i : Nat} (ha : aOk a) (hi : i < a.1) (hd : dOk d) (hn : 2 ≤ d.1.1) (hR : RdC M a (.inr i)) (hD : DrC M d) (h : ∀ M', fr 6 12 M M' → ClC M' a (if d.1.2.2.2.1 = 0 then (wrd a 59 (ligX a 12 0 (i + 1) d).1, (ligX a 12 0 (i + 1) d).2) else (.inl (3, i), d)) → Q 0 M') : Cl κ mX5_readLights [.ref 11, .ref 6] M Q := by
  have h12 := hd.1.2.2.1
  have h240 := ha.1
  refine eX5_readLights 6 (bX5_readLights_0 6 twO_6 ?_)
  rw [hD.1.2.2.2.1]
  refine ⟨fun c => ?_, fun c => ?_⟩
  · have c : d.1.2.2.2.1 = 0 := by
      have := (nI_leI (b := 0) (by omega) (by decide)).mp c
      omega
    rw [if_pos c] at h
    rintro M1 e1
    obtain ⟨R1, f1⟩ := hR.up hi e1
    refine up_ind 12 (fun k => ∀ i (d' : DR) M', fr 6 12 M M' → RdC M' a (.inr i) → DrC M' d' → d'.1.2.2.2.1 = k → (∀ M'', fr 6 12 M M'' → ClC M'' a (ligX a (12 - k) k i d') → G κ mX5_readLights 103 [.ref 11, .null, .null] [] M'' Q) → G κ mX5_readLights 29 [.ref 11, .ref 6, .int (nI k)] [] M' Q) ?_ ?_ 0 (by decide) (i + 1) d M1 (f1.up (by omega) (by omega)) R1 (hD.f11 f1) c (fun M'' f'' r'' => bX5_readLights_103 6 twO_6 (s_readWord (c := 59) _ (by decide) ha r''.1 (fun M2 f2 R2 => h M2 (f''.tr (f2.up (by omega) (by omega))) ⟨R2, fun j hj => ?_⟩)))
    · intro i d' M' f' R' D' _ hq
      exact bX5_readLights_29 6 twO_6 _ ⟨fun _ => hq M' f' ⟨R', fun _ _ => D'⟩, fun c => absurd (by decide) c⟩
    · intro k hk ih i d' M' f' R' D' hdk hq
      rw [show 12 - k = (12 - (k + 1)) + 1 by omega, ligX_s] at hq
      refine bX5_readLights_29 6 twO_6 _ ⟨fun c => absurd c (nI_ge (b := 12) hk (by decide)), fun _ => s_readNumber (lo := 1) (hi := 9) _ ha R' (fun _ _ => ⟨rfl, rfl, by decide, by decide⟩) (fun M2 r2 f2 R2 v2 => ⟨vp_in_nI hk (by decide), ?_⟩)⟩
      rw [tNI (by omega)]
      rintro M3 e3 M4 e4
      have m7 : M3 6 7 = nI k := by rw [e3, pt_c _ _ (by decide), f2 6 (by omega), D'.1.2.2.2.1, hdk]
      rw [m7, nI_1] at e4
      have f4 : fr 6 12 M M4 := by
        rw [e4, e3]
        exact fr.pt (fr.pt (f'.tr (f2.up (by omega) (by omega))) (by omega) (by omega)) (by omega) (by omega)
      have R4 : RdC M4 a (num a 1 9 (.inr i)).1 := R2.kp (by rw [e4, pt_c _ _ (by decide), e3, pt_c _ _ (by decide)]) (by rw [e4, pt_c _ _ (by decide), e3, pt_c _ _ (by decide)])
      have D4 : ∀ j, (num a 1 9 (.inr i)).1 = .inr j → DrC M4 ((d'.1.1, d'.1.2.1, d'.1.2.2.1, k + 1, d'.1.2.2.2.2.1, upN d'.1.2.2.2.2.2 k (num a 1 9 (.inr i)).2), d'.2) := by
        intro j hj
        have kc : ∀ c, c ≠ 6 → c ≠ 10 → c ≠ 11 → M4 c = M' c := fun c c1 c2 c3 => by rw [e4, pt_c _ _ c1, e3, pt_c _ _ c2, f2 c (by omega)]
        have k6 : ∀ k, k ≠ 7 → M4 6 k = M' 6 k := fun k hk => by rw [e4, pt_k _ _ hk, e3, pt_c _ _ (by decide), f2 6 (by omega)]
        refine ⟨Tw6 (by rw [k6 4 (by decide)]; exact D'.1.1) (by rw [k6 5 (by decide)]; exact D'.1.2.1) (by rw [k6 6 (by decide)]; exact D'.1.2.2.1) (by rw [e4, pt_s]) (fun p hp => by rw [kc 7 (by decide) (by decide) (by decide)]; exact D'.1.2.2.2.2.1 p hp) (fun q hq => ?_), fun p hp => by rw [kc 8 (by decide) (by decide) (by decide), kc 9 (by decide) (by decide) (by decide)]; exact D'.2 p hp⟩
        have hq : q < k + 1 := hq
        show M4 10 q = nI (upN d'.1.2.2.2.2.2 k (num a 1 9 (.inr i)).2 q)
        rw [e4, pt_c _ _ (by decide), e3]
        by_cases z : q = k
        · rw [z, pt_s, upN_s, v2 j hj]
        · rw [pt_k _ _ z, upN_lt z, f2 10 (by omega)]
          exact D'.1.2.2.2.2.2 q (by omega)
      generalize hr : (num a 1 9 (.inr i)).1 = r at *
      match r, R4, D4, hq with
      | .inl e, R4, _, hq =>
        obtain ⟨⟨i4, hi4, p4⟩, q3, q4, q5⟩ := R4.2.2
        refine s_skipBlanks ha R4.1 R4.2.1 hi4 p4 (fun M5 f5 g5 p5 => ⟨fun z => ?_, fun _ => hq M5 (f4.tr (f5.up (by omega) (by omega))) ⟨⟨by rw [g5 1 (by decide)]; exact R4.1, fun i hi => by rw [f5 12 (by omega)]; exact R4.2.1 i hi, ⟨_, (sk_le i4).2.1 hi4, p5⟩, by rw [g5 3 (by decide)]; exact q3, q4, by rw [g5 4 (by decide)]; exact q5⟩, fun j hj => by cases hj⟩⟩)
        rw [g5 3 (by decide), q3] at z
        have := nI_inj (b := 0) (by omega) (by decide) z
        omega
      | .inr j, R4, D4, hq =>
        have D4 := D4 j rfl
        have hq : ∀ M'', fr 6 12 M M'' → ClC M'' a (if (sk a j < a.1 ∧ a.2 (sk a j) = 44) ∧ k ≠ 11 then ligX a (12 - (k + 1)) (k + 1) (sk a j + 1) ((d'.1.1, d'.1.2.1, d'.1.2.2.1, k + 1, d'.1.2.2.2.2.1, upN d'.1.2.2.2.2.2 k (num a 1 9 (.inr i)).2), d'.2) else (.inr (sk a j), ((d'.1.1, d'.1.2.1, d'.1.2.2.1, k + 1, d'.1.2.2.2.2.1, upN d'.1.2.2.2.2.2 k (num a 1 9 (.inr i)).2), d'.2))) → G κ mX5_readLights 103 [.ref 11, .null, .null] [] M'' Q := hq
        obtain ⟨m1, m2, ⟨m3, m4⟩, m5, m6⟩ := R4.i
        refine s_skipBlanks ha m1 m2 m3 m4 (fun M5 f5 g5 p5 => ?_)
        have R5 := R4.sk f5 g5 p5
        have D5 := D4.f11 f5
        have f5' : fr 6 12 M M5 := f4.tr (f5.up (by omega) (by omega))
        refine ⟨fun _ => ?_, fun z => absurd R5.i.2.2.2.1 z⟩
        have stop : ¬ ((sk a j < a.1 ∧ a.2 (sk a j) = 44) ∧ k ≠ 11) → G κ mX5_readLights 103 [.ref 11, .null, .null] [] M5 Q := by
          intro z
          rw [if_neg z] at hq
          exact hq M5 f5' ⟨R5, fun _ _ => D5⟩
        refine s_letterHere ha R5.1 R5.2.1 R5.i.2.2.1.1 p5 ?_
        by_cases q : sk a j < a.1
        · rw [if_pos q]
          have hl := ha.2 _ q
          refine ⟨fun e => ⟨fun e2 => stop (fun z => z.2 (nI_inj (b := 11) (by omega) (by decide) e2)), fun e2 => ?_⟩, fun e => stop (fun z => e (by rw [z.1.2]; rfl))⟩
          have e : a.2 (sk a j) = 44 := nI_inj (b := 44) (by omega) (by decide) e
          rw [if_pos ⟨⟨q, e⟩, fun z => e2 (by rw [z]; rfl)⟩] at hq
          rintro M6 e6
          obtain ⟨R6, f6⟩ := R5.up q e6
          rw [nI_1]
          exact ih (sk a j + 1) _ M6 (f5'.tr (f6.up (by omega) (by omega))) R6 (D5.f11 f6) rfl hq
        · rw [if_neg q]
          exact ⟨fun e => absurd e (by decide), fun _ => stop (fun z => q z.1.1)⟩
    · obtain ⟨j2, hj2⟩ := wrd_in hj
      exact (r''.2 j2 hj2).f11 f2
  · have c : d.1.2.2.2.1 ≠ 0 := fun q => c (by rw [q]; decide)
    rw [if_neg c] at h
    rw [hR.i.2.2.1.2]
    exact s_blameX (n := 3) ⟨by decide, by decide⟩ hR (fun M' f' r' => h M' (f'.up (by omega) (by omega)) ⟨r', fun j hj => by cases hj⟩)
end Town4
