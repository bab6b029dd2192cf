section Town9
variable {κ : gK} {M : MM} {Q : Int32 → MM → Prop} {a : AT} {d : DR}
/-- how a town begins -/
def sB (d : DR) : ST := (0, 0, fun p => if p < d.1.2.2.1 then 2 ^ d.2.1 p else 0, fun p => if p < d.1.2.2.1 then d.2.2 p else 0, fun _ => 0)
theorem sB_ok (hd : dOk d) : okS d.1 (sB d) := by
  refine ⟨⟨by show 0 ≤ 1000000; omega, Nat.two_pow_pos _, fun p => ?_, fun p hp => ?_, fun p hp => ?_, fun p => ?_, fun p => Nat.zero_le _⟩, Nat.zero_le _⟩
  · show (if _ then _ else _) < _
    split
    · rename_i q
      exact Nat.pow_lt_pow_right (by decide) (hd.2 p q).1
    · exact Nat.two_pow_pos _
  · show 0 < (if _ then _ else _)
    rw [if_pos hp]; exact Nat.two_pow_pos _
  · show (if _ then _ else _) = 0
    rw [if_neg (by omega)]
  · show (if _ then _ else _) ≤ 9
    split
    · rename_i q
      exact (hd.2 p q).2
    · exact Nat.zero_le _
theorem s_copyTown (hd : dOk d) (hD : DrC M d) (h : ∀ M', fr 1 6 M M' → Tw M' 1 d.1 → (∀ p, p < d.1.2.2.1 → M' 3 p = nI (d.2.1 p) ∧ M' 4 p = nI (d.2.2 p)) → Q 0 M') : Cl κ mX9_copyFrom [.ref 1, .ref 6] M Q := by
  have h8 := hd.1.2.1
  have h12 := hd.1.2.2.1
  refine eX9_copyFrom 1 6 (bX9_copyFrom_0 1 6 twO_1 twO_6 ?_)
  rintro M1 e1 M2 e2 M3 e3 M4 e4 M5 e5 M6 e6 M7 e7 M8 e8
  have g4 : ∀ c, 6 ≤ c → M4 c = M c := fun c hc => by rw [e4, cp_c _ (by omega), e3, cp_c _ (by omega), e2, cp_c _ (by omega), e1, cp_c _ (by omega)]
  have c6 : ∀ k, M4 6 k = M 6 k := fun k => by rw [g4 6 (by omega)]
  have k2 : ∀ c, c ≠ 1 → M8 c = M4 c := fun c hc => by rw [e8, pt_c _ _ hc, e7, pt_c _ _ hc, e6, pt_c _ _ hc, e5, pt_c _ _ hc]
  refine h M8 ?_ ⟨?_, ?_, ?_, ?_, fun p hp => ?_, fun k hk => ?_⟩ (fun p hp => ⟨?_, ?_⟩)
  · rw [e8, e7, e6, e5, e4, e3, e2, e1]
    exact (((((((fr.rf.cp (by omega) (by omega)).cp (by omega) (by omega)).cp (by omega) (by omega)).cp (by omega) (by omega)).pt (by omega) (by omega)).pt (by omega) (by omega)).pt (by omega) (by omega)).pt (by omega) (by omega)
  · rw [e8, pt_k _ _ (by decide), e7, pt_k _ _ (by decide), e6, pt_k _ _ (by decide), e5, pt_s, c6]; exact hD.1.1
  · rw [e8, pt_k _ _ (by decide), e7, pt_k _ _ (by decide), e6, pt_s, e5, pt_c _ _ (by decide), c6]; exact hD.1.2.1
  · rw [e8, pt_k _ _ (by decide), e7, pt_s, e6, pt_c _ _ (by decide), e5, pt_c _ _ (by decide), c6]; exact hD.1.2.2.1
  · rw [e8, pt_s, e7, pt_c _ _ (by decide), e6, pt_c _ _ (by decide), e5, pt_c _ _ (by decide), c6]; exact hD.1.2.2.2.1
  · rw [k2 (1 + 1) (by decide), e4, cp_c _ (by decide), e3, cp_c _ (by decide), e2, cp_c _ (by decide), e1, cp_l _ _ _ (by omega)]
    exact hD.1.2.2.2.2.1 p hp
  · rw [k2 (1 + 4) (by decide), e4, cp_l _ _ _ (by omega), e3, cp_c _ (by decide), e2, cp_c _ (by decide), e1, cp_c _ (by decide)]
    exact hD.1.2.2.2.2.2 k hk
  · rw [k2 3 (by decide), e4, cp_c _ (by decide), e3, cp_c _ (by decide), show M2 3 p = M2 (1 + 2) p from rfl, e2, cp_l _ _ _ (by omega), e1, cp_c _ (by decide)]
    exact (hD.2 p hp).1
  · rw [k2 4 (by decide), e4, cp_c _ (by decide), show M3 4 p = M3 (1 + 3) p from rfl, e3, cp_l _ _ _ (by omega), e2, cp_c _ (by decide), e1, cp_c _ (by decide)]
    exact (hD.2 p hp).2
theorem s_begin (hd : dOk d) (hT : Tw M 1 d.1) (hS : ∀ p, p < d.1.2.2.1 → M 3 p = nI (d.2.1 p) ∧ M 4 p = nI (d.2.2 p)) (h : ∀ M', fr 13 17 M M' → Sv M' 13 (sB d) → Q 0 M') : Cl κ mX8_begin [.ref 13, .ref 1] M Q := by
  have h8 := hd.1.2.1
  have h9 := hd.1.n9
  refine eX8_begin 13 1 (bX8_begin_0 13 1 stO_13 twO_1 ?_)
  refine up_ind 8 (fun k => ∀ M', fr 13 17 M M' → (∀ p, p < k → M' 14 p = nI ((sB d).2.2.1 p) ∧ M' 15 p = nI ((sB d).2.2.2.1 p) ∧ M' 16 p = nI 0) → G κ mX8_begin 2 [.ref 13, .ref 1, .int (nI k)] [] M' Q) ?_ ?_ 0 (by decide) M fr.rf (fun p hp => absurd hp (by omega))
  · intro M' f' b'
    refine bX8_begin_2 13 1 stO_13 twO_1 _ ⟨fun _ => ?_, fun c => absurd (by decide) c⟩
    rintro M1 e1 M2 e2
    refine h M2 (by rw [e2, e1]; exact (f'.pt (by omega) (by omega)).pt (by omega) (by omega)) ⟨by rw [e2, pt_k _ _ (by decide), e1, pt_s]; rfl, by rw [e2, pt_s]; rfl, fun p hp => ?_⟩
    have kc : ∀ c, c ≠ 13 → M2 c = M' c := fun c hc => by rw [e2, pt_c _ _ hc, e1, pt_c _ _ hc]
    rw [kc (13 + 1) (by decide), kc (13 + 2) (by decide), kc (13 + 3) (by decide)]
    exact b' p hp
  · intro k hk ih M' f' b'
    have T' := hT.fr f' (by omega)
    refine bX8_begin_2 13 1 stO_13 twO_1 _ ⟨fun c => absurd c (nI_ge (b := 8) hk (by decide)), fun _ => ?_⟩
    have last : ∀ M1 (s1 : Int32), M1 = pt M' 14 k (nI ((sB d).2.2.1 k)) → s1 = nI ((sB d).2.2.2.1 k) → G κ mX8_begin 57 [.ref 13, .ref 1, .int (nI k)] [.int s1, .int (nI k), .ref 15] M1 Q := by
      intro M1 s1 e1 hs1
      refine bX8_begin_57 13 1 stO_13 twO_1 _ _ _ ⟨v8 hk, ?_⟩
      rw [t8 hk]
      rintro M2 e2
      refine ⟨v8 hk, ?_⟩
      rintro M3 e3
      rw [nI_1]
      refine ih M3 (by rw [e3, e2, e1]; exact ((f'.pt (by omega) (by omega)).pt (by omega) (by omega)).pt (by omega) (by omega)) (fun p hp => ?_)
      have q14 : M3 14 p = M1 14 p := by rw [e3, pt_c _ _ (by decide), e2, pt_c _ _ (by decide)]
      have q15 : M3 15 p = M2 15 p := by rw [e3, pt_c _ _ (by decide)]
      rw [q14, q15]
      by_cases z : p = k
      · subst z
        exact ⟨by rw [e1, pt_s], by rw [e2, show (15 : Nat) = 13 + 2 from rfl, pt_s, hs1], by rw [e3, show (16 : Nat) = 13 + 3 from rfl, pt_s]; rfl⟩
      · obtain ⟨a1, a2, a3⟩ := b' p (by omega)
        exact ⟨by rw [e1, pt_k _ _ z]; exact a1, by rw [e2, show (15 : Nat) = 13 + 2 from rfl, pt_k _ _ z, e1, pt_c _ _ (by decide)]; exact a2, by rw [e3, show (16 : Nat) = 13 + 3 from rfl, pt_k _ _ z, e2, pt_c _ _ (by decide), e1, pt_c _ _ (by decide)]; exact a3⟩
    have mid : ∀ s0 : Int32, s0 = nI ((sB d).2.2.1 k) → G κ mX8_begin 33 [.ref 13, .ref 1, .int (nI k)] [.int s0, .int (nI k), .ref 14] M' Q := by
      intro s0 hs0
      refine bX8_begin_33 13 1 stO_13 twO_1 _ _ _ ⟨v8 hk, ?_⟩
      rw [t8 hk, hs0]
      rintro M1 e1
      have e1 : M1 = pt M' 14 k (nI ((sB d).2.2.1 k)) := e1
      have f1 : fr 13 17 M M1 := by rw [e1]; exact f'.pt (by omega) (by omega)
      refine s_hasPerson twO_1 (hT.fr f1 (by omega)) hd.1 (fun j hj e => b1 ⟨v8 hk, last M1 _ e1 ?_⟩) (fun hn => b0 (last M1 _ e1 ?_))
      · have e := nI_inj (by omega) (by omega) e
        subst e
        show M1 4 k = nI (if k < d.1.2.2.1 then d.2.2 k else 0)
        rw [if_pos hj, f1 4 (by omega)]
        exact (hS k hj).2
      · show (0 : Int32) = nI (if k < d.1.2.2.1 then d.2.2 k else 0)
        rw [if_neg (fun q => hn ⟨k, q, rfl⟩)]; rfl
    refine s_hasPerson twO_1 T' hd.1 (fun j hj e => b1 ⟨v8 hk, mid _ ?_⟩) (fun hn => b0 (mid _ ?_))
    · have e := nI_inj (by omega) (by omega) e
      subst e
      have hst := (hd.2 k hj).1
      rw [t8 hk, show M' (1 + 2) k = nI (d.2.1 k) by rw [f' (1 + 2) (by omega)]; exact (hS k hj).1, one_shl (by omega)]
      show nI (2 ^ d.2.1 k) = nI (if k < d.1.2.2.1 then 2 ^ d.2.1 k else 0)
      rw [if_pos hj]
    · show (0 : Int32) = nI (if k < d.1.2.2.1 then 2 ^ d.2.1 k else 0)
      rw [if_neg (fun q => hn ⟨k, q, rfl⟩)]; rfl
theorem s_forgetIm (h : ∀ M', fr 90 91 M M' → (∀ i, i < 2 → M' 90 i = nI 0) → Q 0 M') : Cl κ mX2_forget [.ref 87] M Q := by
  refine eX2_forget (bX2_forget_0 ?_)
  refine up_ind 2 (fun k => ∀ M', fr 90 91 M M' → (∀ i, i < k → M' 90 i = nI 0) → G κ mX2_forget 2 [.ref 87, .int (nI k)] [] M' Q) ?_ ?_ 0 (by decide) M fr.rf (fun i hi => absurd hi (by omega))
  · intro M' f' b'
    exact bX2_forget_2 _ ⟨fun _ => h M' f' b', fun c => absurd (by decide) c⟩
  · intro k hk ih M' f' b'
    refine bX2_forget_2 _ ⟨fun c => absurd c (nI_ge (b := 2) hk (by decide)), fun _ => ⟨vp_in_nI hk (by decide), ?_⟩⟩
    rw [tNI (by omega)]
    rintro M1 e1
    rw [nI_1]
    refine ih M1 (by rw [e1]; exact f'.pt (by omega) (by omega)) (fun i hi => ?_)
    by_cases z : i = k
    · rw [z, e1, pt_s]; rfl
    · rw [e1, pt_k _ _ z]; exact b' i (by omega)
end Town9
