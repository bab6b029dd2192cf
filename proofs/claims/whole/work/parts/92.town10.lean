section Town10
variable {κ : gK} {M : MM} {Q : Int32 → MM → Prop} {d : DR}
def bgF (d : DR) (k j : Nat) : Nat := if 2 ≤ j ∧ j < 2 + k then 2 ^ d.2.1 (j - 2) else if 10 ≤ j ∧ j < 10 + k then d.2.2 (j - 10) else 0
theorem bg_Rv (h8 : d.1.2.2.1 ≤ 8) (h : ∀ j, j < 26 → M 122 j = nI (bgF d d.1.2.2.1 j)) : Rv M 122 0 (sB d) := by
  refine ⟨?_, ?_, fun p hp => ⟨?_, ?_, ?_⟩⟩
  · rw [h 0 (by decide)]; unfold bgF; rw [if_neg (by omega), if_neg (by omega)]; rfl
  · rw [h (0 + 1) (by decide)]; unfold bgF; rw [if_neg (by omega), if_neg (by omega)]; rfl
  · rw [h (0 + 2 + p) (by omega)]
    show nI (bgF d d.1.2.2.1 (0 + 2 + p)) = nI (if p < d.1.2.2.1 then 2 ^ d.2.1 p else 0)
    unfold bgF
    by_cases q : p < d.1.2.2.1
    · rw [if_pos (by omega), if_pos q, show 0 + 2 + p - 2 = p by omega]
    · rw [if_neg (by omega), if_neg (by omega), if_neg q]
  · rw [h (0 + 10 + p) (by omega)]
    show nI (bgF d d.1.2.2.1 (0 + 10 + p)) = nI (if p < d.1.2.2.1 then d.2.2 p else 0)
    unfold bgF
    by_cases q : p < d.1.2.2.1
    · rw [if_neg (by omega), if_pos (by omega), if_pos q, show 0 + 10 + p - 10 = p by omega]
    · rw [if_neg (by omega), if_neg (by omega), if_neg q]
  · rw [h (0 + 18 + p) (by omega)]
    unfold bgF
    rw [if_neg (by omega), if_neg (by omega)]; rfl
def kB (k : Nat) : Prop := k = 0 ∨ k = 1 ∨ k = 2 ∨ k = 5 ∨ k = 8 ∨ k = 9 ∨ k = 19 ∨ k = 24 ∨ k = 26 ∨ k = 29
theorem r_found {s0 : Int32} (hd : dOk d) (hD : DrR M d) (h11 : M 119 11 = nI 0) (h : ∀ M', (∀ c, c ≠ 119 → c ≠ 120 → c ≠ 121 → c ≠ 122 → c ≠ 134 → M' c = M c) → (∀ k, ¬ kB k → M' 119 k = M 119 k) → TwR M' d.1 → Rv M' 122 0 (sB d) → M' 119 9 = s0 → M' 119 8 = nI 0 → M' 119 19 = nI 0 → M' 119 24 = nI 0 → M' 119 26 = nI 0 → M' 119 29 = nI 0 → (∀ i, i < 2 → M' 134 i = nI 0) → Q (nI d.1.2.2.1) M') : G κ mX11_town 27 [.ref 119, .null] [.int s0, .ref 119] M Q := by
  have h8 := hd.1.2.1
  have h9 := hd.1.n9
  have h12 := hd.1.2.2.1
  refine bX11_town_27 _ ?_
  rintro M1 e1 M2 e2
  have k2 : ∀ k, k ≠ 8 → k ≠ 9 → M2 119 k = M 119 k := fun k c1 c2 => by rw [e2, pt_k _ _ c1, e1, pt_k _ _ c2]
  rw [k2 11 (by decide) (by decide), h11]
  refine ⟨fun _ => ?_, fun c => absurd (by decide) c⟩
  rintro M3 e3 M4 e4 M5 e5 M6 e6
  have c6 : ∀ c, c ≠ 119 → M6 c = M c := fun c hc => by rw [e6, pt_c _ _ hc, e5, pt_c _ _ hc, e4, pt_c _ _ hc, e3, pt_c _ _ hc, e2, pt_c _ _ hc, e1, pt_c _ _ hc]
  have a0 : M6 119 0 = nI d.1.1 := by rw [e6, pt_k _ _ (by decide), e5, pt_k _ _ (by decide), e4, pt_k _ _ (by decide), e3, pt_s, k2 12 (by decide) (by decide)]; exact hD.1
  have a1 : M6 119 1 = nI d.1.2.1 := by rw [e6, pt_k _ _ (by decide), e5, pt_k _ _ (by decide), e4, pt_s, e3, pt_k _ _ (by decide), k2 13 (by decide) (by decide)]; exact hD.2.1
  have a2 : M6 119 2 = nI d.1.2.2.1 := by rw [e6, pt_k _ _ (by decide), e5, pt_s, e4, pt_k _ _ (by decide), e3, pt_k _ _ (by decide), k2 14 (by decide) (by decide)]; exact hD.2.2.1
  have a5 : M6 119 5 = nI d.1.2.2.2.1 := by rw [e6, pt_s, e5, pt_k _ _ (by decide), e4, pt_k _ _ (by decide), e3, pt_k _ _ (by decide), k2 17 (by decide) (by decide)]; exact hD.2.2.2.1
  have a8 : M6 119 8 = nI 0 := by rw [e6, pt_k _ _ (by decide), e5, pt_k _ _ (by decide), e4, pt_k _ _ (by decide), e3, pt_k _ _ (by decide), e2, pt_s]; rfl
  have a9 : M6 119 9 = s0 := by rw [e6, pt_k _ _ (by decide), e5, pt_k _ _ (by decide), e4, pt_k _ _ (by decide), e3, pt_k _ _ (by decide), e2, pt_k _ _ (by decide), e1, pt_s]
  have ak : ∀ k, ¬ kB k → M6 119 k = M 119 k := by
    intro k hk
    unfold kB at hk
    rw [e6, pt_k _ _ (by omega), e5, pt_k _ _ (by omega), e4, pt_k _ _ (by omega), e3, pt_k _ _ (by omega), k2 k (by omega) (by omega)]
  -- persons
  have three : ∀ M', (∀ c, c ≠ 121 → c ≠ 122 → M' c = M6 c) → (∀ k, k < d.1.2.2.2.1 → M' 121 k = nI (d.1.2.2.2.2.2 k)) → (∀ j, j < 26 → M' 122 j = nI 0) → G κ mX11_town 133 [.ref 119, .int 0] [] M' Q := by
    intro M0 f0 l0 z0
    refine up_ind d.1.2.2.1 (fun p => ∀ M', (∀ c, c ≠ 120 → c ≠ 121 → c ≠ 122 → M' c = M6 c) → (∀ k, k < d.1.2.2.2.1 → M' 121 k = nI (d.1.2.2.2.2.2 k)) → (∀ q, q < p → M' 120 q = nI (d.1.2.2.2.2.1 q)) → (∀ j, j < 26 → M' 122 j = nI (bgF d p j)) → G κ mX11_town 133 [.ref 119, .int (nI p)] [] M' Q) ?_ ?_ 0 (Nat.zero_le _) M0 (fun c _ c2 c3 => f0 c c2 c3) l0 (fun q hq => absurd hq (by omega)) (fun j hj => by rw [z0 j hj]; unfold bgF; rw [if_neg (by omega), if_neg (by omega)])
    · intro M' f' l' p' b'
      refine bX11_town_133 _ ?_
      rw [show M' 119 2 = nI d.1.2.2.1 by rw [f' 119 (by decide) (by decide) (by decide)]; exact a2]
      refine ⟨fun _ => ?_, fun c => absurd (Int32.le_refl _) c⟩
      rintro N1 n1 N2 n2 N3 n3 N4 n4 N5 n5 N6 n6
      have cN : ∀ c, c ≠ 119 → c ≠ 134 → N6 c = M' c := fun c c1 c2 => by rw [n6, pt_c _ _ c2, n5, pt_c _ _ c2, n4, pt_c _ _ c1, n3, pt_c _ _ c1, n2, pt_c _ _ c1, n1, pt_c _ _ c1]
      have kN : ∀ k, k ≠ 19 → k ≠ 24 → k ≠ 26 → k ≠ 29 → N6 119 k = M6 119 k := fun k c1 c2 c3 c4 => by rw [n6, pt_c _ _ (by decide), n5, pt_c _ _ (by decide), n4, pt_k _ _ c1, n3, pt_k _ _ c4, n2, pt_k _ _ c3, n1, pt_k _ _ c2, f' 119 (by decide) (by decide) (by decide)]
      rw [kN 2 (by decide) (by decide) (by decide) (by decide), a2]
      refine h N6 (fun c c1 c2 c3 c4 c5 => by rw [cN c c1 c5, f' c c2 c3 c4, c6 c c1]) (fun k hk => ?_) ⟨by rw [kN 0 (by decide) (by decide) (by decide) (by decide)]; exact a0, by rw [kN 1 (by decide) (by decide) (by decide) (by decide)]; exact a1, by rw [kN 2 (by decide) (by decide) (by decide) (by decide)]; exact a2, by rw [kN 5 (by decide) (by decide) (by decide) (by decide)]; exact a5, fun p hp => by rw [cN 120 (by decide) (by decide)]; exact p' p hp, fun k hk => by rw [cN 121 (by decide) (by decide)]; exact l' k hk⟩ (bg_Rv h8 (fun j hj => by rw [cN 122 (by decide) (by decide)]; exact b' j hj)) (by rw [kN 9 (by decide) (by decide) (by decide) (by decide)]; exact a9) (by rw [kN 8 (by decide) (by decide) (by decide) (by decide)]; exact a8) ?_ ?_ ?_ ?_ (fun i hi => ?_)
      · have hk2 := hk
        unfold kB at hk2
        rw [kN k (by omega) (by omega) (by omega) (by omega), ak k hk]
      · rw [n6, pt_c _ _ (by decide), n5, pt_c _ _ (by decide), n4, pt_s]; rfl
      · rw [n6, pt_c _ _ (by decide), n5, pt_c _ _ (by decide), n4, pt_k _ _ (by decide), n3, pt_k _ _ (by decide), n2, pt_k _ _ (by decide), n1, pt_s]; rfl
      · rw [n6, pt_c _ _ (by decide), n5, pt_c _ _ (by decide), n4, pt_k _ _ (by decide), n3, pt_k _ _ (by decide), n2, pt_s]; rfl
      · rw [n6, pt_c _ _ (by decide), n5, pt_c _ _ (by decide), n4, pt_k _ _ (by decide), n3, pt_s]; rfl
      · have : i = 0 ∨ i = 1 := by omega
        rcases this with rfl | rfl
        · rw [n6, pt_k _ _ (by decide), n5, pt_s]; rfl
        · rw [n6, pt_s]; rfl
    · intro p hp ih M' f' l' p' b'
      obtain ⟨d1, d2, d3⟩ := hD.2.2.2.2.1 p hp
      have hst := (hd.2 p hp).1
      have m124 : ∀ q, M' 124 q = M 124 q := fun q => by rw [f' 124 (by decide) (by decide) (by decide), c6 124 (by decide)]
      refine bX11_town_133 _ ?_
      rw [show M' 119 2 = nI d.1.2.2.1 by rw [f' 119 (by decide) (by decide) (by decide)]; exact a2]
      refine ⟨fun c => absurd c (nI_ge hp (by omega)), fun _ => ?_⟩
      rw [show (3 : Int32) = nI 3 from rfl, pk_mul, nI_1, show (2 : Int32) = nI 2 from rfl, nI_add, nI_add, show (10 : Int32) = nI 10 from rfl, nI_add, tNI (by omega), tNI (by omega), tNI (by omega), tNI (by omega), tNI (by omega), tNI (by omega), m124, d1]
      refine ⟨vp_in_nI (by omega) (by decide), v8 (by omega), ?_⟩
      rintro M7 e7
      refine ⟨vp_in_nI (by omega) (by decide), vp_in_nI (by omega) (by decide), ?_⟩
      rw [show M7 124 (3 * p + 1) = nI (d.2.1 p) by rw [e7, pt_c _ _ (by decide), m124]; exact d2, one_shl (by omega)]
      rintro M8 e8
      refine ⟨vp_in_nI (by omega) (by decide), vp_in_nI (by omega) (by decide), ?_⟩
      rw [show M8 124 (3 * p + 2) = nI (d.2.2 p) by rw [e8, pt_c _ _ (by decide), e7, pt_c _ _ (by decide), m124]; exact d3]
      rintro M9 e9
      rw [nI_1]
      refine ih M9 (fun c c1 c2 c3 => by rw [e9, pt_c _ _ c3, e8, pt_c _ _ c3, e7, pt_c _ _ c1]; exact f' c c1 c2 c3) (fun k hk => by rw [e9, pt_c _ _ (by decide), e8, pt_c _ _ (by decide), e7, pt_c _ _ (by decide)]; exact l' k hk) (fun q hq => ?_) (fun j hj => ?_)
      · rw [e9, pt_c _ _ (by decide), e8, pt_c _ _ (by decide), e7]
        by_cases z : q = p
        · rw [z, pt_s]
        · rw [pt_k _ _ z]; exact p' q (by omega)
      · rw [e9]
        by_cases z : j = 10 + p
        · rw [z, pt_s]
          unfold bgF
          rw [if_neg (by omega), if_pos (by omega), show 10 + p - 10 = p by omega]
        · rw [pt_k _ _ z, e8]
          by_cases z2 : j = 2 + p
          · rw [z2, pt_s]
            unfold bgF
            rw [if_pos (by omega), show 2 + p - 2 = p by omega]
          · rw [pt_k _ _ z2, e7, pt_c _ _ (by decide), b' j hj]
            unfold bgF
            by_cases q1 : 2 ≤ j ∧ j < 2 + p
            · rw [if_pos q1, if_pos (show 2 ≤ j ∧ j < 2 + (p + 1) by omega)]
            · rw [if_neg q1, if_neg (show ¬ (2 ≤ j ∧ j < 2 + (p + 1)) by omega)]
              by_cases q2 : 10 ≤ j ∧ j < 10 + p
              · rw [if_pos q2, if_pos (show 10 ≤ j ∧ j < 10 + (p + 1) by omega)]
              · rw [if_neg q2, if_neg (show ¬ (10 ≤ j ∧ j < 10 + (p + 1)) by omega)]
  -- lights
  have two : ∀ M', (∀ c, c ≠ 122 → M' c = M6 c) → (∀ j, j < 26 → M' 122 j = nI 0) → G κ mX11_town 105 [.ref 119, .int 0] [] M' Q := by
    intro M0 f0 z0
    refine up_ind d.1.2.2.2.1 (fun k => ∀ M', (∀ c, c ≠ 121 → c ≠ 122 → M' c = M6 c) → (∀ j, j < 26 → M' 122 j = nI 0) → (∀ q, q < k → M' 121 q = nI (d.1.2.2.2.2.2 q)) → G κ mX11_town 105 [.ref 119, .int (nI k)] [] M' Q) ?_ ?_ 0 (Nat.zero_le _) M0 (fun c _ c2 => f0 c c2) z0 (fun q hq => absurd hq (by omega))
    · intro M' f' z' l'
      refine bX11_town_105 _ ?_
      rw [show M' 119 5 = nI d.1.2.2.2.1 by rw [f' 119 (by decide) (by decide)]; exact a5]
      exact ⟨fun _ => three M' f' l' z', fun c => absurd (Int32.le_refl _) c⟩
    · intro k hk ih M' f' z' l'
      refine bX11_town_105 _ ?_
      rw [show M' 119 5 = nI d.1.2.2.2.1 by rw [f' 119 (by decide) (by decide)]; exact a5, tNI (by omega), show M' 125 k = nI (d.1.2.2.2.2.2 k) by rw [f' 125 (by decide) (by decide), c6 125 (by decide)]; exact hD.2.2.2.2.2 k hk]
      refine ⟨fun c => absurd c (nI_ge hk (by omega)), fun _ => ⟨vp_in_nI (by omega) (by decide), ?_⟩⟩
      rintro M7 e7
      rw [nI_1]
      refine ih M7 (fun c c1 c2 => by rw [e7, pt_c _ _ c1]; exact f' c c1 c2) (fun j hj => by rw [e7, pt_c _ _ (by decide)]; exact z' j hj) (fun q hq => ?_)
      by_cases z : q = k
      · rw [z, e7, pt_s]
      · rw [e7, pt_k _ _ z]; exact l' q (by omega)
  refine up_ind 26 (fun k => ∀ M', (∀ c, c ≠ 122 → M' c = M6 c) → (∀ j, j < k → M' 122 j = nI 0) → G κ mX11_town 84 [.ref 119, .int (nI k)] [] M' Q) ?_ ?_ 0 (by decide) M6 (fun _ _ => rfl) (fun j hj => absurd hj (by omega))
  · intro M' f' z'
    exact bX11_town_84 _ ⟨fun _ => two M' f' z', fun c => absurd (by decide) c⟩
  · intro k hk ih M' f' z'
    refine bX11_town_84 _ ⟨fun c => absurd c (nI_ge (b := 26) hk (by decide)), fun _ => ⟨vp_in_nI hk (by decide), ?_⟩⟩
    rw [tNI (by omega)]
    rintro M7 e7
    rw [nI_1]
    refine ih M7 (fun c c1 => by rw [e7, pt_c _ _ c1]; exact f' c c1) (fun j hj => ?_)
    by_cases z : j = k
    · rw [z, e7, pt_s]; rfl
    · rw [e7, pt_k _ _ z]; exact z' j (by omega)
end Town10
