section Town7
variable {κ : gK} {M : MM} {Q : Int32 → MM → Prop} {a : AT} {d : DR}
def DrR (M : MM) (d : DR) : Prop := M 119 12 = nI d.1.1 ∧ M 119 13 = nI d.1.2.1 ∧ M 119 14 = nI d.1.2.2.1 ∧ M 119 17 = nI d.1.2.2.2.1 ∧ (∀ p, p < d.1.2.2.1 → M 124 (3 * p) = nI (d.1.2.2.2.2.1 p) ∧ M 124 (3 * p + 1) = nI (d.2.1 p) ∧ M 124 (3 * p + 2) = nI (d.2.2 p)) ∧ ∀ k, k < d.1.2.2.2.1 → M 125 k = nI (d.1.2.2.2.2.2 k)
theorem DrR.fR {M M' : MM} (h : DrR M d) (f : fR M M') : DrR M' d := by
  unfold DrR at *
  rw [f.2 12 (by decide) (by decide) (by decide), f.2 13 (by decide) (by decide) (by decide), f.2 14 (by decide) (by decide) (by decide), f.2 17 (by decide) (by decide) (by decide), f.1 124 (by decide), f.1 125 (by decide)]
  exact h
/-- what reading may change -/
def kT (k : Nat) : Prop := k = 9 ∨ k = 10 ∨ k = 11 ∨ k = 12 ∨ k = 13 ∨ k = 14 ∨ k = 17
def fT (M M' : MM) : Prop := (∀ c, c ≠ 119 → c ≠ 124 → c ≠ 125 → M' c = M c) ∧ ∀ k, ¬ kT k → M' 119 k = M 119 k
theorem fT.rf : fT M M := ⟨fun _ _ _ _ => rfl, fun _ _ => rfl⟩
theorem fT.tr {M M1 M2 : MM} (h : fT M M1) (h2 : fT M1 M2) : fT M M2 := ⟨fun c c1 c2 c3 => (h2.1 c c1 c2 c3).trans (h.1 c c1 c2 c3), fun k hk => (h2.2 k hk).trans (h.2 k hk)⟩
theorem fT.pt {M M1 : MM} {k : Nat} {x : Int32} (h : fT M M1) (hk : kT k) : fT M (pt M1 119 k x) := ⟨fun c c1 c2 c3 => by rw [pt_c _ _ c1]; exact h.1 c c1 c2 c3, fun j hj => by
  have ne : j ≠ k := fun e => hj (by rw [e]; exact hk)
  rw [pt_k _ _ ne]; exact h.2 j hj⟩
theorem fT_p4 {M M1 : MM} {k : Nat} {x : Int32} (h : fT M M1) : fT M (pt M1 124 k x) := ⟨fun c c1 c2 c3 => by rw [pt_c _ _ c2]; exact h.1 c c1 c2 c3, fun j hj => by rw [pt_c _ _ (by decide)]; exact h.2 j hj⟩
theorem fT_p5 {M M1 : MM} {k : Nat} {x : Int32} (h : fT M M1) : fT M (pt M1 125 k x) := ⟨fun c c1 c2 c3 => by rw [pt_c _ _ c3]; exact h.1 c c1 c2 c3, fun j hj => by rw [pt_c _ _ (by decide)]; exact h.2 j hj⟩
theorem fR.T {M M' : MM} (h : fR M M') : fT M M' := ⟨fun c c1 _ _ => h.1 c c1, fun k hk => h.2 k (fun e => hk (.inl e)) (fun e => hk (.inr (.inl e))) (fun e => hk (.inr (.inr (.inl e))))⟩
theorem RdR.kp {M M' : MM} {b : Nat} {x : XR} (h : RdR M a b x) (h1 : ∀ k, k = 8 ∨ k = 9 ∨ k = 10 ∨ k = 11 → M' 119 k = M 119 k) (h2 : M' 123 = M 123) : RdR M' a b x := by
  unfold RdR at *
  rw [h1 8 (by omega), h1 9 (by omega), h1 10 (by omega), h1 11 (by omega), h2]; exact h
def ClR (M : MM) (a : AT) (b : Nat) (r : XR × DR) : Prop := RdR M a b r.1 ∧ ∀ j, r.1 = .inr j → DrR M r.2
theorem r_readPerson {i b : Nat} (ha : aOk a) (hb1 : a.1 ≤ b) (hb2 : b ≤ 1000) (hd : dOk d) (hn : 2 ≤ d.1.1) (h8 : d.1.2.2.1 < 8) (hR : RdR M a b (.inr i)) (hD : DrR M d) (h : ∀ M', fT M M' → ClR M' a b ((num a 0 9 (num a 0 (d.1.1 - 1) (num a 0 4 (.inr i)).1).1).1, (perX a i d).2) → Q 0 M') : Cl κ mX11_readPerson [.ref 119] M Q := by
  have h9 := hd.1.n9
  refine eX11_readPerson (bX11_readPerson_0 ?_)
  rw [hD.2.2.1, show (3 : Int32) = nI 3 from rfl, pk_mul]
  rintro v1 rfl
  rw [nI_1, show (2 : Int32) = nI 2 from rfl, nI_add, tNI (by omega), tNI (by omega), tNI (by omega)]
  refine r_number (lo := 0) (hi := 4) _ ha hb1 hb2 hR (fun _ _ => ⟨rfl, rfl, by decide, by decide⟩) (fun M2 r2 f2 R2 v2 => ⟨vp_in_nI (by omega) (by decide), ?_⟩)
  rintro M3 e3
  have R3 := RdR.kp (M' := M3) R2 (fun k _ => by rw [e3, pt_c _ _ (by decide)]) (by rw [e3, pt_c _ _ (by decide)])
  have n3 : M3 119 12 = nI d.1.1 := by rw [e3, pt_c _ _ (by decide), f2.2 12 (by decide) (by decide) (by decide)]; exact hD.1
  refine r_number (lo := 0) (hi := d.1.1 - 1) _ ha hb1 hb2 R3 (fun _ _ => ⟨rfl, by rw [n3, show (1 : Int32) = nI 1 from rfl, pk_sub (by omega)], by decide, by omega⟩) (fun M4 r4 f4 R4 v4 => ⟨vp_in_nI (by omega) (by decide), ?_⟩)
  rintro M5 e5
  have R5 := RdR.kp (M' := M5) R4 (fun k _ => by rw [e5, pt_c _ _ (by decide)]) (by rw [e5, pt_c _ _ (by decide)])
  refine r_number (lo := 0) (hi := 9) _ ha hb1 hb2 R5 (fun _ _ => ⟨rfl, rfl, by decide, by decide⟩) (fun M6 r6 f6 R6 v6 => ⟨vp_in_nI (by omega) (by decide), ?_⟩)
  rintro M7 e7 M8 e8
  have k7 : ∀ k, k ≠ 9 → k ≠ 10 → k ≠ 11 → M7 119 k = M 119 k := fun k k1 k2 k3 => by rw [e7, pt_c _ _ (by decide), f6.2 k k1 k2 k3, e5, pt_c _ _ (by decide), f4.2 k k1 k2 k3, e3, pt_c _ _ (by decide), f2.2 k k1 k2 k3]
  have p7 : M7 119 14 = nI d.1.2.2.1 := by rw [k7 14 (by decide) (by decide) (by decide)]; exact hD.2.2.1
  rw [p7, nI_1] at e8
  have R8 := RdR.kp (M' := M8) R6 (fun k hk => by rw [e8, pt_k _ _ (by omega), e7, pt_c _ _ (by decide)]) (by rw [e8, pt_c _ _ (by decide), e7, pt_c _ _ (by decide)])
  refine h M8 ?_ ⟨R8, fun j hj => ?_⟩
  · rw [e8]
    refine fT.pt ?_ (.inr (.inr (.inr (.inr (.inr (.inl rfl))))))
    rw [e7]
    refine fT_p4 (fT.tr ?_ f6.T)
    rw [e5]
    refine fT_p4 (fT.tr ?_ f4.T)
    rw [e3]
    exact fT_p4 f2.T
  · obtain ⟨⟨j2, hj2⟩, _⟩ := num_in hj
    obtain ⟨⟨j1, hj1⟩, _⟩ := num_in hj2
    have q124 : ∀ q, M8 124 q = if q = 3 * d.1.2.2.1 + 2 then r6 else if q = 3 * d.1.2.2.1 + 1 then r4 else if q = 3 * d.1.2.2.1 then r2 else M 124 q := by
      intro q
      rw [e8, pt_c _ _ (by decide), e7]
      by_cases z : q = 3 * d.1.2.2.1 + 2
      · rw [if_pos z, z, pt_s]
      · rw [if_neg z, pt_k _ _ z, f6.1 124 (by decide), e5]
        by_cases z : q = 3 * d.1.2.2.1 + 1
        · rw [if_pos z, z, pt_s]
        · rw [if_neg z, pt_k _ _ z, f4.1 124 (by decide), e3]
          by_cases z : q = 3 * d.1.2.2.1
          · rw [if_pos z, z, pt_s]
          · rw [if_neg z, pt_k _ _ z, f2.1 124 (by decide)]
    have k8 : ∀ k, k ≠ 14 → k ≠ 9 → k ≠ 10 → k ≠ 11 → M8 119 k = M 119 k := fun k k0 k1 k2 k3 => by rw [e8, pt_k _ _ k0, k7 k k1 k2 k3]
    refine ⟨by rw [k8 12 (by decide) (by decide) (by decide) (by decide)]; exact hD.1, by rw [k8 13 (by decide) (by decide) (by decide) (by decide)]; exact hD.2.1, by rw [e8, pt_s]; rfl, by rw [k8 17 (by decide) (by decide) (by decide) (by decide)]; exact hD.2.2.2.1, fun p hp => ?_, fun k hk => ?_⟩
    · have hp : p < d.1.2.2.1 + 1 := hp
      show M8 124 (3 * p) = nI (upN d.1.2.2.2.2.1 d.1.2.2.1 (num a 0 4 (.inr i)).2 p) ∧ M8 124 (3 * p + 1) = nI (upN d.2.1 d.1.2.2.1 (num a 0 (d.1.1 - 1) (num a 0 4 (.inr i)).1).2 p) ∧ M8 124 (3 * p + 2) = nI (upN d.2.2 d.1.2.2.1 (num a 0 9 (num a 0 (d.1.1 - 1) (num a 0 4 (.inr i)).1).1).2 p)
      rw [q124, q124, q124]
      by_cases z : p = d.1.2.2.1
      · subst z
        rw [if_neg (by omega), if_neg (by omega), if_pos rfl, if_neg (by omega), if_pos rfl, if_pos rfl, upN_s, upN_s, upN_s]
        exact ⟨v2 j1 hj1, v4 j2 hj2, v6 j hj⟩
      · rw [if_neg (by omega), if_neg (by omega), if_neg (by omega), if_neg (by omega), if_neg (by omega), if_neg (by omega), if_neg (by omega), if_neg (by omega), if_neg (by omega), upN_lt z, upN_lt z, upN_lt z]
        exact hD.2.2.2.2.1 p (by omega)
    · rw [e8, pt_c _ _ (by decide), e7, pt_c _ _ (by decide), f6.1 125 (by decide), e5, pt_c _ _ (by decide), f4.1 125 (by decide), e3, pt_c _ _ (by decide), f2.1 125 (by decide)]
      exact hD.2.2.2.2.2 k hk
theorem r_readDawns {i b : Nat} (ha : aOk a) (hb1 : a.1 ≤ b) (hb2 : b ≤ 1000) (hR : RdR M a b (.inr i)) (hD : DrR M d) (hz : d.1.2.2.2.1 = 0) (h : ∀ M', fT M M' → ClR M' a b (ligX a 12 0 i d) → Q 0 M') : Cl κ mX11_readDawns [.ref 119] M Q := by
  have h240 := ha.1
  refine eX11_readDawns (bX11_readDawns_0 ?_)
  refine up_ind 12 (fun k => k < 12 → ∀ i (d' : DR) M', fT M M' → RdR M' a b (.inr i) → DrR M' d' → d'.1.2.2.2.1 = k → (∀ M'', fT M M'' → ClR M'' a b (ligX a (12 - k) k i d') → Q 0 M'') → G κ mX11_readDawns 2 [.ref 119, .int 1, .null] [] M' Q) ?_ ?_ 0 (by decide) (by decide) i d M fT.rf hR hD hz h
  · intro q; omega
  · intro k hk ih _ i d' M' f' R' D' hdk hq
    rw [show 12 - k = (12 - (k + 1)) + 1 by omega, ligX_s] at hq
    refine bX11_readDawns_2 _ (b1 ⟨fun _ => r_number (lo := 1) (hi := 9) _ ha hb1 hb2 R' (fun _ _ => ⟨rfl, rfl, by decide, by decide⟩) (fun M2 r2 f2 R2 v2 => ?_), fun z => absurd R'.i.2.2.2.1 z⟩)
    have m17 : M2 119 17 = nI k := by rw [f2.2 17 (by decide) (by decide) (by decide), D'.2.2.2.1, hdk]
    rw [m17, tNI (by omega)]
    refine ⟨vp_in_nI hk (by decide), ?_⟩
    rintro M3 e3 M4 e4
    rw [show M3 119 17 = nI k by rw [e3, pt_c _ _ (by decide)]; exact m17, nI_1] at e4
    have f4 : fT M M4 := by
      rw [e4, e3]
      exact fT.pt (fT_p5 (f'.tr f2.T)) (.inr (.inr (.inr (.inr (.inr (.inr rfl))))))
    have R4 := RdR.kp (M' := M4) R2 (fun q hq => by rw [e4, pt_k _ _ (by omega), e3, pt_c _ _ (by decide)]) (by rw [e4, pt_c _ _ (by decide), e3, pt_c _ _ (by decide)])
    have k17 : M4 119 17 = nI (k + 1) := by rw [e4, pt_s]
    have D4 : ∀ j, (num a 1 9 (.inr i)).1 = .inr j → DrR M4 ((d'.1.1, d'.1.2.1, d'.1.2.2.1, k + 1, d'.1.2.2.2.2.1, upN d'.1.2.2.2.2.2 k (num a 1 9 (.inr i)).2), d'.2) := by
      intro j hj
      have D2 := D'.fR f2
      have k4 : ∀ q, q ≠ 17 → M4 119 q = M2 119 q := fun q hq => by rw [e4, pt_k _ _ hq, e3, pt_c _ _ (by decide)]
      refine ⟨by rw [k4 12 (by decide)]; exact D2.1, by rw [k4 13 (by decide)]; exact D2.2.1, by rw [k4 14 (by decide)]; exact D2.2.2.1, k17, fun p hp => by rw [e4, pt_c _ _ (by decide), e3, pt_c _ _ (by decide)]; exact D2.2.2.2.2.1 p hp, fun q hq => ?_⟩
      have hq : q < k + 1 := hq
      show M4 125 q = nI (upN d'.1.2.2.2.2.2 k (num a 1 9 (.inr i)).2 q)
      rw [e4, pt_c _ _ (by decide), e3]
      by_cases z : q = k
      · rw [z, pt_s, upN_s, v2 j hj]
      · rw [pt_k _ _ z, upN_lt z]
        exact D2.2.2.2.2.2 q (by omega)
    have hnv : ∀ j, (num a 1 9 (.inr i)).1 = .inr j → True := fun _ _ => trivial
    generalize hr : (num a 1 9 (.inr i)).1 = r at *
    match r, R4, D4, hq with
    | .inl e, R4, _, hq =>
      obtain ⟨m1, m2, ⟨i4, hi4, p4⟩, q3, q4, q5, q6⟩ := R4
      have ks := sk_le (a := a) i4
      refine r_here ha m1 m2 (by omega) p4 (fun M5 f5 g5 p5 => ?_)
      have k5 : M5 119 17 = nI (k + 1) := by rw [g5 17 (by decide)]; exact k17
      have q3' : M5 119 11 = nI e.1 := by rw [g5 11 (by decide)]; exact q3
      have go : ∀ (s0 : Int32) (m : Nat), (s0 = 0 ∨ s0 = 1) → (∀ M6, M6 = pt M5 119 10 (nI m) → m ≤ b → G κ mX11_readDawns 2 [.ref 119, .int s0, .null] [] M6 Q) := by
        intro s0 m hs M6 e6 hm
        have res := hq M6 (by rw [e6]; exact (f4.tr f5.T).pt (.inr (.inl rfl))) ⟨⟨by rw [e6, pt_k _ _ (by decide), g5 8 (by decide)]; exact m1, fun i hi => by rw [e6, pt_c _ _ (by decide), f5.1 123 (by decide)]; exact m2 i hi, ⟨m, hm, by rw [e6, pt_s]⟩, by rw [e6, pt_k _ _ (by decide)]; exact q3', q4, by rw [e6, pt_k _ _ (by decide), g5 9 (by decide)]; exact q5, q6⟩, fun j hj => by cases hj⟩
        refine bX11_readDawns_2 _ ⟨fun _ => bX11_readDawns_86 res, fun _ => ⟨fun z => ?_, fun _ => bX11_readDawns_86 res⟩⟩
        rw [e6, pt_k _ _ (by decide), q3'] at z
        have := nI_inj (b := 0) (by omega) (by decide) z
        omega
      have stop : G κ mX11_readDawns 63 [.ref 119, .null, .null] [] M5 Q := by
        refine bX11_readDawns_63 (bX11_readDawns_64 _ (b0 (bX11_readDawns_79 _ _ _ ?_)))
        rw [p5, show (0 : Int32) = nI 0 from rfl, nI_add, Nat.add_zero]
        rintro M6 e6
        exact go 0 _ (.inl rfl) M6 e6 (by omega)
      by_cases q : sk a i4 < a.1
      · rw [if_pos q, k5]
        refine ⟨fun _ => ⟨fun _ => stop, fun _ => bX11_readDawns_64 _ (b1 (bX11_readDawns_79 _ _ _ ?_))⟩, fun _ => stop⟩
        rw [p5, nI_1]
        rintro M6 e6
        exact go 1 _ (.inr rfl) M6 e6 (by omega)
      · rw [if_neg q]
        exact ⟨fun e => absurd e (by decide), fun _ => stop⟩
    | .inr j, R4, D4, hq =>
      have D4 := D4 j rfl
      have hq : ∀ M'', fT M M'' → ClR M'' a b (if (sk a j < a.1 ∧ a.2 (sk a j) = 44) ∧ k ≠ 11 then ligX a (12 - (k + 1)) (k + 1) (sk a j + 1) ((d'.1.1, d'.1.2.1, d'.1.2.2.1, k + 1, d'.1.2.2.2.2.1, upN d'.1.2.2.2.2.2 k (num a 1 9 (.inr i)).2), d'.2) else (.inr (sk a j), ((d'.1.1, d'.1.2.1, d'.1.2.2.1, k + 1, d'.1.2.2.2.2.1, upN d'.1.2.2.2.2.2 k (num a 1 9 (.inr i)).2), d'.2))) → Q 0 M'' := hq
      obtain ⟨m1, m2, ⟨m3, m4⟩, m5, m6⟩ := R4.i
      have ks := sk_le (a := a) j
      refine r_here ha m1 m2 (by omega) m4 (fun M5 f5 g5 p5 => ?_)
      have k5 : M5 119 17 = nI (k + 1) := by rw [g5 17 (by decide)]; exact k17
      have R5 : ∀ m M6, m ≤ a.1 → M6 = pt M5 119 10 (nI m) → RdR M6 a b (.inr m) ∧ fR M4 M6 := fun m M6 hm e6 => ⟨⟨by rw [e6, pt_k _ _ (by decide), g5 8 (by decide)]; exact m1, fun i hi => by rw [e6, pt_c _ _ (by decide), f5.1 123 (by decide)]; exact m2 i hi, ⟨hm, by rw [e6, pt_s]⟩, by rw [e6, pt_k _ _ (by decide), g5 11 (by decide)]; exact m5, by rw [e6, pt_k _ _ (by decide), g5 9 (by decide)]; exact m6⟩, by rw [e6]; exact f5.pt (.inr (.inl rfl))⟩
      have stop : ¬ ((sk a j < a.1 ∧ a.2 (sk a j) = 44) ∧ k ≠ 11) → G κ mX11_readDawns 63 [.ref 119, .null, .null] [] M5 Q := by
        intro z
        rw [if_neg z] at hq
        refine bX11_readDawns_63 (bX11_readDawns_64 _ (b0 (bX11_readDawns_79 _ _ _ ?_)))
        rw [p5, show (0 : Int32) = nI 0 from rfl, nI_add, Nat.add_zero]
        rintro M6 e6
        obtain ⟨R6, f6⟩ := R5 _ M6 (by omega) e6
        exact bX11_readDawns_2 _ (b0 (bX11_readDawns_86 (hq M6 (f4.tr f6.T) ⟨R6, fun _ _ => D4.fR f6⟩)))
      by_cases q : sk a j < a.1
      · rw [if_pos q, k5]
        have hl := ha.2 _ q
        refine ⟨fun e => ⟨fun c => stop (fun z => z.2 ?_), fun c => ?_⟩, fun e => stop (fun z => e (by rw [z.1.2]; rfl))⟩
        · have := (nI_leI (a := 12) (by decide) (by omega)).mp c
          omega
        · have c : k ≠ 11 := fun z => c (by rw [z]; decide)
          rw [if_pos ⟨⟨q, nI_inj (b := 44) (by omega) (by decide) e⟩, c⟩] at hq
          refine bX11_readDawns_64 _ (b1 (bX11_readDawns_79 _ _ _ ?_))
          rw [p5, nI_1]
          rintro M6 e6
          obtain ⟨R6, f6⟩ := R5 _ M6 (by omega) e6
          exact ih (by omega) (sk a j + 1) _ M6 (f4.tr f6.T) R6 (D4.fR f6) rfl hq
      · rw [if_neg q]
        exact ⟨fun e => absurd e (by decide), fun _ => stop (fun z => q z.1.1)⟩
end Town7
