section Met3
variable {κ : gK} {M : MM} {Q : Int32 → MM → Prop} {c : A4}
def fitP (c : A4) (g : Nat → Nat) (m : Nat) : Prop := ∀ i, i < c.1 → c.2.1 i < m → c.2.2.1 i < m → (g (c.2.1 i) = g (c.2.2.1 i) ↔ c.2.2.2 i = 1)
def tpF (h : Nat → Nat) : Nat → Nat
  | 0 => 0
  | i + 1 => max (tpF h i) (h i + 1)
theorem tpF_s (h : Nat → Nat) (i : Nat) : tpF h (i + 1) = max (tpF h i) (h i + 1) := rfl
theorem tpF_congr {g h : Nat → Nat} : ∀ m, (∀ i, i < m → g i = h i) → tpF g m = tpF h m := by
  intro m
  induction m with
  | zero => intro _; rfl
  | succ m ih => intro e; rw [tpF_s, tpF_s, ih (fun i hi => e i (by omega)), e m (by omega)]
theorem tpF_ge (h : Nat → Nat) : ∀ m i, i < m → h i + 1 ≤ tpF h m := by
  intro m
  induction m with
  | zero => intro i hi; omega
  | succ m ih =>
    intro i hi
    rw [tpF_s]
    by_cases e : i = m
    · subst e; exact Nat.le_max_right _ _
    · exact Nat.le_trans (ih i (by omega)) (Nat.le_max_left _ _)
theorem tpF_le (h : Nat → Nat) (b : Nat) : ∀ m, (∀ i, i < m → h i < b) → tpF h m ≤ b := by
  intro m
  induction m with
  | zero => intro _; exact Nat.zero_le _
  | succ m ih => intro e; rw [tpF_s]; exact Nat.max_le.mpr ⟨ih (fun i hi => e i (by omega)), e m (by omega)⟩
def swN (a b x : Nat) : Nat := if x = a then b else if x = b then a else x
theorem swN_inj (a b x y : Nat) : swN a b x = swN a b y ↔ x = y := by
  unfold swN
  split <;> split <;> (try split) <;> (try split) <;> omega
theorem canon {P k : Nat} (g : Nat → Nat) (hg : ∀ i, i < P → g i < k) : ∀ m, m ≤ P → ∃ h : Nat → Nat, (∀ i j, i < P → j < P → (h i = h j ↔ g i = g j)) ∧ (∀ i, i < P → h i < k) ∧ ∀ i, i < m → h i ≤ tpF h i := by
  intro m
  induction m with
  | zero => intro _; exact ⟨g, fun _ _ _ _ => Iff.rfl, hg, fun i hi => absurd hi (by omega)⟩
  | succ m ih =>
    intro hm
    obtain ⟨h, h1, h2, h3⟩ := ih (by omega)
    by_cases q : h m ≤ tpF h m
    · refine ⟨h, h1, h2, fun i hi => ?_⟩
      by_cases e : i = m
      · subst e; exact q
      · exact h3 i (by omega)
    · have low : ∀ i, i < m → swN (tpF h m) (h m) (h i) = h i := by
        intro i hi
        have := tpF_ge h m i hi
        unfold swN
        rw [if_neg (by omega), if_neg (by omega)]
      refine ⟨fun i => swN (tpF h m) (h m) (h i), fun i j hi hj => (swN_inj _ _ _ _).trans (h1 i j hi hj), fun i hi => ?_, fun i hi => ?_⟩
      · have a1 := h2 i hi
        have a2 := h2 m (by omega)
        show swN _ _ _ < _
        unfold swN
        split
        · omega
        · split <;> omega
      · by_cases e : i = m
        · subst e
          rw [tpF_congr (h := h) i low]
          show swN _ _ _ ≤ _
          unfold swN
          rw [if_neg (by omega), if_pos rfl]
          exact Nat.le_refl _
        · rw [tpF_congr (h := h) i (fun j hj => low j (by omega))]
          show swN _ _ _ ≤ _
          rw [low i (by omega)]
          exact h3 i (by omega)
def goodR (P k : Nat) (c : A4) (h : Nat → Nat) : Prop := (∀ i, i < P → h i < k) ∧ (∀ i, i < P → h i ≤ tpF h i) ∧ fitP c h P
theorem all_tb (P p : Nat) : (2 ^ P - 1).testBit p = decide (p < P) := Nat.testBit_two_pow_sub_one P p
theorem good_EX {P k : Nat} (hb : ∀ i, i < c.1 → c.2.1 i < P ∧ c.2.2.1 i < P ∧ c.2.1 i ≠ c.2.2.1 i ∧ c.2.2.2 i ≤ 1) : (∃ h, goodR P k c h) ↔ EX c (2 ^ P - 1) k := by
  constructor
  · rintro ⟨h, h1, _, h3⟩
    refine ⟨h, fun p hp => ?_, fun i hi => ?_⟩
    · rw [all_tb, decide_eq_true_eq] at hp; exact h1 p hp
    · obtain ⟨b1, b2, _, b3⟩ := hb i hi
      have := h3 i hi b1 b2
      refine ⟨fun z _ _ e => ?_, fun z => ⟨by rw [all_tb, all_tb, decide_eq_true b1, decide_eq_true b2], fun _ => this.mpr (by omega)⟩⟩
      have := this.mp e
      omega
  · rintro ⟨g, h1, h2⟩
    obtain ⟨h, e1, e2, e3⟩ := canon (P := P) (k := k) g (fun i hi => h1 i (by rw [all_tb]; exact decide_eq_true hi)) P (Nat.le_refl _)
    refine ⟨h, e2, e3, fun i hi b1 b2 => ?_⟩
    obtain ⟨_, _, _, b3⟩ := hb i hi
    obtain ⟨a1, a2⟩ := h2 i hi
    rw [e1 _ _ b1 b2]
    rw [all_tb, all_tb, decide_eq_true b1, decide_eq_true b2] at a1 a2
    constructor
    · intro e
      rcases Nat.eq_zero_or_pos (c.2.2.2 i) with z | z
      · exact absurd e (a1 z rfl rfl)
      · omega
    · intro e
      exact (a2 (by omega)).2 rfl
theorem r_fits {m : Nat} {g : Nat → Nat} (hM : MeR M c) (hc : c.1 ≤ 10) (hb : ∀ i, i < c.1 → c.2.1 i < 8 ∧ c.2.2.1 i < 8 ∧ c.2.2.2 i ≤ 1) (hm : m ≤ 8) (hg : ∀ i, i < m → M 131 i = nI (g i) ∧ g i < 2 ^ 31) (h1 : fitP c g m → Q 1 M) (h0 : ¬ fitP c g m → Q 0 M) : Cl κ mX11_fits [.ref 119, .int (nI m)] M Q := by
  have vs : ∀ k, k < c.1 → vp_in (3 * nI k) 30 ∧ vp_in (3 * nI k + 1) 30 ∧ vp_in (3 * nI k + 2) 30 ∧ (3 * nI k).toNatClampNeg = 3 * k ∧ (3 * nI k + 1).toNatClampNeg = 3 * k + 1 ∧ (3 * nI k + 2).toNatClampNeg = 3 * k + 2 := by
    intro k hk
    rw [show (3 : Int32) = nI 3 from rfl, pk_mul, nI_1, show (2 : Int32) = nI 2 from rfl, nI_add]
    exact ⟨vp_in_nI (by omega) (by decide), vp_in_nI (by omega) (by decide), vp_in_nI (by omega) (by decide), tNI (by omega), tNI (by omega), tNI (by omega)⟩
  have no : ¬ fitP c g m → ∀ k, k ≤ c.1 → G κ mX11_fits 4 [.ref 119, .int (nI m), .int 0, .int (nI k), .null, .null] [] M Q := by
    intro hf
    refine up_ind c.1 (fun k => G κ mX11_fits 4 [.ref 119, .int (nI m), .int 0, .int (nI k), .null, .null] [] M Q) ?_ ?_
    · exact bX11_fits_4 _ _ _ ⟨fun _ => ⟨.inl rfl, h0 hf⟩, fun q => absurd (by rw [hM.1]; exact Int32.le_refl _) q⟩
    · intro k hk ih
      obtain ⟨w1, w2, w3, _⟩ := vs k hk
      refine bX11_fits_4 _ _ _ ⟨fun q => absurd (by rw [hM.1] at q; exact q) (nI_ge hk (by omega)), fun _ => ⟨w1, fun v1 _ => ⟨w2, fun v2 _ => b0 (bX11_fits_98 _ _ (bX11_fits_99 _ _ _ ?_))⟩⟩⟩
      rw [nI_1]; exact ih
  refine eX11_fits _ (bX11_fits_0 _ ?_)
  refine up_ind c.1 (fun k => (∀ i, i < k → c.2.1 i < m → c.2.2.1 i < m → (g (c.2.1 i) = g (c.2.2.1 i) ↔ c.2.2.2 i = 1)) → G κ mX11_fits 4 [.ref 119, .int (nI m), .int 1, .int (nI k), .null, .null] [] M Q) ?_ ?_ 0 (Nat.zero_le _) (fun i hi => absurd hi (by omega))
  · intro e
    exact bX11_fits_4 _ _ _ ⟨fun _ => ⟨.inr rfl, h1 e⟩, fun q => absurd (by rw [hM.1]; exact Int32.le_refl _) q⟩
  · intro k hk ih e
    have b := hb k hk
    obtain ⟨w1, w2, w3, w4, w5, w6⟩ := vs k hk
    obtain ⟨m1, m2, m3⟩ := hM.2 k hk
    have yes : (c.2.1 k < m → c.2.2.1 k < m → (g (c.2.1 k) = g (c.2.2.1 k) ↔ c.2.2.2 k = 1)) → G κ mX11_fits 94 [.ref 119, .int (nI m), .null, .int (nI k), .null, .null] [] M Q := fun q => bX11_fits_94 _ _ (bX11_fits_99 _ _ _ (by
      rw [nI_1]
      refine ih (fun i hi => ?_)
      by_cases z : i = k
      · subst z; exact q
      · exact e i (by omega)))
    have nay : ¬ (c.2.1 k < m → c.2.2.1 k < m → (g (c.2.1 k) = g (c.2.2.1 k) ↔ c.2.2.2 k = 1)) → G κ mX11_fits 98 [.ref 119, .int (nI m), .null, .int (nI k), .null, .null] [] M Q := fun q => bX11_fits_98 _ _ (bX11_fits_99 _ _ _ (by
      rw [nI_1]
      exact no (fun z => q (z k hk)) (k + 1) hk))
    refine bX11_fits_4 _ _ _ ⟨fun q => absurd (by rw [hM.1] at q; exact q) (nI_ge hk (by omega)), fun _ => ⟨w1, ?_⟩⟩
    rw [w4, w5, m1, m2]
    rintro v1 rfl
    refine ⟨w2, ?_⟩
    rintro v2 rfl
    refine b1 ⟨fun q => yes (fun z => absurd ((nI_leI (by omega) (by omega)).mp q) (by omega)), fun q => ⟨fun q2 => yes (fun _ z => absurd ((nI_leI (by omega) (by omega)).mp q2) (by omega)), fun q2 => ⟨v8 b.1, v8 b.2.1, ?_⟩⟩⟩
    have p1 : c.2.1 k < m := by
      rcases Nat.lt_or_ge (c.2.1 k) m with y | y
      · exact y
      · exact absurd (nI_le y (by omega)) q
    have p2 : c.2.2.1 k < m := by
      rcases Nat.lt_or_ge (c.2.2.1 k) m with y | y
      · exact y
      · exact absurd (nI_le y (by omega)) q2
    rw [t8 b.1, t8 b.2.1, (hg _ p1).1, (hg _ p2).1]
    have fin : ∀ (w : Prop) (x : Int32), isB x → (x = 1 ↔ w) → (w ↔ g (c.2.1 k) = g (c.2.2.1 k)) → G κ mX11_fits 72 [.ref 119, .int (nI m), .null, .int (nI k), .null, .null] [.int x] M Q := by
      intro w x hx hxw hw
      refine bX11_fits_72 _ _ _ ⟨w3, ?_⟩
      rw [w6, m3]
      refine ⟨fun d => bX11_fits_91 _ _ _ _ ⟨fun y => yes ?_, fun y => nay ?_⟩, fun d => bX11_fits_91 _ _ _ _ ⟨fun y => yes ?_, fun y => nay ?_⟩⟩
      · have d : c.2.2.2 k = 1 := nI_inj (b := 1) (by omega) (by decide) d
        exact fun _ _ => ⟨fun _ => d, fun _ => hw.mp (hxw.mp y)⟩
      · have d : c.2.2.2 k = 1 := nI_inj (b := 1) (by omega) (by decide) d
        exact fun z => y (hxw.mpr (hw.mpr ((z p1 p2).mpr d)))
      · have d : c.2.2.2 k ≠ 1 := fun z => d (by rw [z]; rfl)
        exact fun _ _ => ⟨fun z => absurd (hxw.mpr (hw.mpr z)) (by rw [y]; decide), fun z => absurd z d⟩
      · have d : c.2.2.2 k ≠ 1 := fun z => d (by rw [z]; rfl)
        have x1 : x = 1 := hx.resolve_left y
        exact fun z => d ((z p1 p2).mp (hw.mp (hxw.mp x1)))
    refine ⟨fun y => fin True 1 (.inr rfl) ⟨fun _ => trivial, fun _ => rfl⟩ ⟨fun _ => nI_inj (hg _ p1).2 (hg _ p2).2 y, fun _ => trivial⟩, fun y => fin False 0 (.inl rfl) ⟨fun z => absurd z (by decide), fun z => z.elim⟩ ⟨fun z => z.elim, fun z => y (by rw [z])⟩⟩
theorem MeR.fr {M M' : MM} (h : MeR M c) (hf : fr 131 132 M M') : MeR M' c := by
  unfold MeR at *
  rw [hf 119 (by omega), hf 130 (by omega)]; exact h
def FOC (κ : gK) (M : MM) (Q : Int32 → MM → Prop) (c : A4) (P k p v : Nat) : Prop := ∀ (g : Nat → Nat) (M' : MM), fr 131 132 M M' → (∀ i, i < p → M' 131 i = nI (g i)) → (∀ i, i < p → g i < k) → (∀ i, i < p → g i ≤ tpF g i) → M' 131 p + 1 = nI v → ((¬ ∃ h, (∀ i, i < p → h i = g i) ∧ v ≤ h p ∧ goodR P k c h) → ∀ M'', fr 131 132 M M'' → (∀ i, i < p → M'' 131 i = nI (g i)) → G κ mX11_fitsOn 9 [.ref 119, .int (nI k), .int (nI p + -1), .null, .null] [] M'' Q) → G κ mX11_fitsOn 9 [.ref 119, .int (nI k), .int (nI p), .null, .null] [] M' Q
theorem FO_head {k p : Nat} {g : Nat → Nat} (hp : p < 8) (hk : k ≤ 8) (hg : ∀ i, i < p → M 131 i = nI (g i)) (hb : ∀ i, i < p → g i < k) (h : G κ mX11_fitsOn 18 [.ref 119, .int (nI k), .int (nI p), .int (nI (tpF g p)), .int (nI p)] [] M Q) : G κ mX11_fitsOn 9 [.ref 119, .int (nI k), .int (nI p), .null, .null] [] M Q := by
  refine bX11_fitsOn_9 _ _ ⟨fun q => absurd q (nI_pos (by omega)), fun _ => ?_⟩
  refine up_ind p (fun i => G κ mX11_fitsOn 18 [.ref 119, .int (nI k), .int (nI p), .int (nI (tpF g i)), .int (nI i)] [] M Q) h ?_ 0 (Nat.zero_le _)
  intro i hi ih
  have t8i := tpF_le g k i (fun j hj => hb j (by omega))
  have bi := hb i hi
  rw [tpF_s] at ih
  refine bX11_fitsOn_18 _ _ _ _ ⟨fun q => absurd q (nI_ge hi (by omega)), fun _ => ⟨v8 (by omega), ?_⟩⟩
  rw [t8 (by omega), hg i hi, nI_1]
  refine ⟨fun q => bX11_fitsOn_50 _ _ _ _ ?_, fun q => bX11_fitsOn_50 _ _ _ _ ?_⟩
  · have q := (nI_leI (by omega) (by omega)).mp q
    rw [Nat.max_eq_left q] at ih
    rw [nI_1]; exact ih
  · have q : tpF g i ≤ g i + 1 := by
      rcases Nat.lt_or_ge (tpF g i) (g i + 1) with y | y
      · omega
      · exact absurd (nI_le y (by omega)) q
    rw [Nat.max_eq_right q] at ih
    rw [nI_1]; exact ih
theorem FO_step {P k p : Nat} (hP : P ≤ 8) (hk : k ≤ 8) (hp : p < P) (h2 : M 119 2 = nI P) (hM : MeR M c) (hc : c.1 ≤ 10) (hb : ∀ i, i < c.1 → c.2.1 i < 8 ∧ c.2.2.1 i < 8 ∧ c.2.2.2 i ≤ 1) (H1 : ∀ M', fr 131 132 M M' → (∃ h, goodR P k c h) → Q 1 M') (down : p + 1 < P → FOC κ M Q c P k (p + 1) 0) : ∀ v, v ≤ k → FOC κ M Q c P k p v := by
  refine up_ind k (FOC κ M Q c P k p) ?_ ?_
  · intro g M' f' hg hgb hgt hv H0
    have tp8 := tpF_le g k p hgb
    refine FO_head (g := g) (by omega) hk hg hgb (bX11_fitsOn_18 _ _ _ _ ⟨fun _ => ⟨v8 (by omega), ?_⟩, fun q => absurd (Int32.le_refl _) q⟩)
    rw [t8 (by omega), hv]
    rintro M1 e1
    have last : G κ mX11_fitsOn 87 [.ref 119, .int (nI k), .int (nI p), .null, .null] [] M1 Q := by
      refine bX11_fitsOn_87 _ _ (bX11_fitsOn_123 _ _ (H0 ?_ M1 (by rw [e1]; exact f'.pt (by omega) (by omega)) (fun i hi => by rw [e1, pt_k _ _ (by omega)]; exact hg i hi)))
      rintro ⟨h, _, q1, q2⟩
      have := q2.1 p hp
      omega
    rw [show M1 131 p = nI k by rw [e1, pt_s]]
    exact ⟨fun _ => last, fun _ => ⟨fun q => absurd q (nI_nlt (Nat.le_refl _) (by omega)), fun _ => last⟩⟩
  · intro v hv0 ih g M' f' hg hgb hgt hv H0
    have tp8 := tpF_le g k p hgb
    refine FO_head (g := g) (by omega) hk hg hgb (bX11_fitsOn_18 _ _ _ _ ⟨fun _ => ⟨v8 (by omega), ?_⟩, fun q => absurd (Int32.le_refl _) q⟩)
    rw [t8 (by omega), hv]
    rintro M1 e1
    have f1 : fr 131 132 M M1 := by rw [e1]; exact f'.pt (by omega) (by omega)
    have g1 : ∀ i, i < p → M1 131 i = nI (g i) := fun i hi => by rw [e1, pt_k _ _ (by omega)]; exact hg i hi
    have gp : M1 131 p = nI v := by rw [e1, pt_s]
    rw [gp]
    refine ⟨fun q => bX11_fitsOn_87 _ _ (bX11_fitsOn_123 _ _ (H0 ?_ M1 f1 g1)), fun q => ⟨fun _ => ?_, fun q2 => absurd (nI_lt hv0 (by omega)) q2⟩⟩
    · have q := (nI_ltI (by omega) (by omega)).mp q
      rintro ⟨h, y1, y2, y3⟩
      have y4 := y3.2.1 p hp
      rw [tpF_congr p y1] at y4
      omega
    have q : v ≤ tpF g p := by
      rcases Nat.lt_or_ge (tpF g p) v with y | y
      · exact absurd (nI_lt y (by omega)) q
      · exact y
    have up : ∀ i, i < p → upN g p v i = g i := fun i hi => upN_lt (by omega)
    have gu : ∀ i, i < p + 1 → M1 131 i = nI (upN g p v i) := by
      intro i hi
      by_cases z : i = p
      · rw [z, upN_s]; exact gp
      · rw [upN_lt z]; exact g1 i (by omega)
    have gub : ∀ i, i < p + 1 → upN g p v i < k := by
      intro i hi
      by_cases z : i = p
      · rw [z, upN_s]; exact hv0
      · rw [upN_lt z]; exact hgb i (by omega)
    have gut : ∀ i, i < p + 1 → upN g p v i ≤ tpF (upN g p v) i := by
      intro i hi
      by_cases z : i = p
      · rw [z, upN_s, tpF_congr p up]; exact q
      · rw [upN_lt z, tpF_congr i (fun j hj => up j (by omega))]; exact hgt i (by omega)
    -- nothing with v at p: the next value is tried
    have next : (¬ ∃ h, (∀ i, i < p + 1 → h i = upN g p v i) ∧ goodR P k c h) → ∀ M2, fr 131 132 M M2 → (∀ i, i < p + 1 → M2 131 i = nI (upN g p v i)) → G κ mX11_fitsOn 9 [.ref 119, .int (nI k), .int (nI p), .null, .null] [] M2 Q := by
      intro no M2 f2 u2
      refine ih g M2 f2 (fun i hi => by rw [u2 i (by omega), up i hi]) hgb hgt (by rw [u2 p (by omega), upN_s, nI_1]) (fun no2 => H0 ?_)
      rintro ⟨h, y1, y2, y3⟩
      by_cases z : h p = v
      · refine no ⟨h, fun i hi => ?_, y3⟩
        by_cases zz : i = p
        · rw [zz, upN_s]; exact z
        · rw [upN_lt zz]; exact y1 i (by omega)
      · exact no2 ⟨h, y1, by omega, y3⟩
    rw [nI_1]
    refine r_fits (g := upN g p v) (hM.fr f1) hc hb (by omega) (fun i hi => ⟨gu i hi, by have := gub i hi; omega⟩) (fun ft => b1 ?_) (fun ft => b0 (bX11_fitsOn_123 _ _ (next ?_ M1 f1 gu)))
    · rw [show M1 119 2 = nI P by rw [f1 119 (by omega)]; exact h2]
      refine ⟨fun z => H1 M1 f1 ?_, fun z => ⟨?_, ?_⟩⟩
      · have z : p + 1 = P := nI_inj (by omega) (by omega) z
        rw [← z]
        exact ⟨upN g p v, gub, gut, ft⟩
      · have z : p + 1 ≠ P := fun y => z (by rw [y])
        exact v8 (by omega)
      · have z : p + 1 ≠ P := fun y => z (by rw [y])
        rw [t8 (by omega)]
        rintro M3 e3
        refine bX11_fitsOn_123 _ _ (down (by omega) (upN g p v) M3 (by rw [e3]; exact f1.pt (by omega) (by omega)) (fun i hi => by rw [e3, pt_k _ _ (by omega)]; exact gu i hi) gub gut (by rw [e3, pt_s]; decide) (fun no M4 f4 u4 => ?_))
        rw [pk_m1]
        exact next (fun ⟨h, y1, y2⟩ => no ⟨h, y1, Nat.zero_le _, y2⟩) M4 f4 u4
    · rintro ⟨h, y1, y2⟩
      refine ft (fun i hi a1 a2 => ?_)
      rw [← y1 _ a1, ← y1 _ a2]
      exact y2.2.2 i hi (by omega) (by omega)
theorem r_fitsOn {P k : Nat} (hP1 : 1 ≤ P) (hP : P ≤ 8) (hk : k ≤ 8) (h2 : M 119 2 = nI P) (hM : MeR M c) (hc : c.1 ≤ 10) (hb : ∀ i, i < c.1 → c.2.1 i < 8 ∧ c.2.2.1 i < 8 ∧ c.2.2.2 i ≤ 1) (H1 : ∀ M', fr 131 132 M M' → (∃ h, goodR P k c h) → Q 1 M') (H0 : ∀ M', fr 131 132 M M' → (¬ ∃ h, goodR P k c h) → Q 0 M') : Cl κ mX11_fitsOn [.ref 119, .int (nI k)] M Q := by
  have key : ∀ d p, p + d + 1 = P → FOC κ M Q c P k p 0 := by
    intro d
    induction d with
    | zero => exact fun p hp => FO_step hP hk (by omega) h2 hM hc hb H1 (fun q => absurd q (by omega)) 0 (Nat.zero_le _)
    | succ d ih => exact fun p hp => FO_step hP hk (by omega) h2 hM hc hb H1 (fun _ => ih (p + 1) (by omega)) 0 (Nat.zero_le _)
  refine eX11_fitsOn _ (bX11_fitsOn_0 _ ?_)
  rintro M1 e1
  refine key (P - 1) 0 (by omega) (fun _ => 0) M1 (by rw [e1]; exact fr.rf.pt (by omega) (by omega)) (fun i hi => absurd hi (by omega)) (fun i hi => absurd hi (by omega)) (fun i hi => absurd hi (by omega)) (by rw [e1, pt_s]; decide) (fun no M2 f2 _ => ?_)
  exact bX11_fitsOn_9 _ _ ⟨fun _ => H0 M2 f2 (fun ⟨h, y⟩ => no ⟨h, fun i hi => absurd hi (by omega), Nat.zero_le _, y⟩), fun q => absurd (by decide) q⟩
def EXr (c : A4) (P : Nat) (r : Int32) : Prop := (∃ k, k ≤ 8 ∧ EX c (2 ^ P - 1) k ∧ (∀ j, j < k → ¬ EX c (2 ^ P - 1) j) ∧ r = nI k) ∨ ((∀ k, k ≤ 8 → ¬ EX c (2 ^ P - 1) k) ∧ r = -1)
theorem EXr_one {P : Nat} {r r' : Int32} (h : EXr c P r) (h' : EXr c P r') : r = r' := by
  rcases h with ⟨k, k1, k2, k3, rfl⟩ | ⟨k1, rfl⟩ <;> rcases h' with ⟨j, j1, j2, j3, rfl⟩ | ⟨j1, rfl⟩
  · have a1 : ¬ j < k := fun q => k3 j q j2
    have a2 : ¬ k < j := fun q => j3 k q k2
    rw [show k = j by omega]
  · exact absurd k2 (j1 k k1)
  · exact absurd j2 (k1 j j1)
  · rfl
theorem r_explained {P : Nat} (hP : P ≤ 8) (h2 : M 119 2 = nI P) (hM : MeR M c) (hc : c.1 ≤ 10) (hb : ∀ i, i < c.1 → c.2.1 i < P ∧ c.2.2.1 i < P ∧ c.2.1 i ≠ c.2.2.1 i ∧ c.2.2.2 i ≤ 1) (h : ∀ M', fr 131 132 M M' → ∀ r, EXr c P r → Q r M') : Cl κ mX11_explained [.ref 119] M Q := by
  have hb' : ∀ i, i < c.1 → c.2.1 i < 8 ∧ c.2.2.1 i < 8 ∧ c.2.2.2 i ≤ 1 := fun i hi => by
    obtain ⟨a1, a2, _, a3⟩ := hb i hi
    exact ⟨by omega, by omega, a3⟩
  refine eX11_explained (bX11_explained_0 ?_)
  rw [h2]
  refine ⟨fun z => bX11_explained_12 _ (bX11_explained_15 _ _ ?_), fun z => bX11_explained_12 _ ?_⟩
  · have z : P = 0 := nI_inj (b := 0) (by omega) (by decide) z
    rw [h2]
    refine ⟨fun _ => bX11_explained_48 _ (h M fr.rf _ (.inl ⟨0, by decide, ?_, fun j hj => absurd hj (by omega), rfl⟩)), fun q => absurd (by rw [z]; decide) q⟩
    rw [z]; exact EX_0 c 0
  · have z : P ≠ 0 := fun q => z (by rw [q]; rfl)
    have hall : 2 ^ P - 1 ≠ 0 := by
      have := Nat.pow_le_pow_right (n := 2) (i := 1) (j := P) (by decide) (by omega)
      omega
    refine up_ind P (fun k => ∀ M', fr 131 132 M M' → (∀ j, j ≤ k → ¬ EX c (2 ^ P - 1) j) → G κ mX11_explained 15 [.ref 119, .int (-1), .int (nI (k + 1))] [] M' Q) ?_ ?_ 0 (Nat.zero_le _) M fr.rf (fun j hj q => by
      have : j = 0 := by omega
      subst this
      exact hall (EX_z q))
    · intro M' f' no
      refine bX11_explained_15 _ _ ?_
      rw [show M' 119 2 = nI P by rw [f' 119 (by omega)]; exact h2]
      refine ⟨fun _ => bX11_explained_48 _ (h M' f' _ (.inr ⟨fun k hk q => no P (Nat.le_refl _) (EX_cap P _ k hP (by omega) q), rfl⟩)), fun q => absurd (nI_lt (by omega) (by omega)) q⟩
    · intro k hk ih M' f' no
      refine bX11_explained_15 _ _ ?_
      rw [show M' 119 2 = nI P by rw [f' 119 (by omega)]; exact h2]
      refine ⟨fun q => absurd q (nI_nlt (by omega) (by omega)), fun _ => ⟨fun _ => ?_, fun q => absurd rfl q⟩⟩
      refine r_fitsOn (P := P) (by omega) hP (by omega) (by rw [f' 119 (by omega)]; exact h2) (hM.fr f') hc hb' (fun M1 f1 ex => b1 (bX11_explained_41 _ _ ?_)) (fun M1 f1 nex => b0 (bX11_explained_41 _ _ ?_))
      · have res : G κ mX11_explained 48 [.null, .int (nI (k + 1)), .null] [] M1 Q := bX11_explained_48 _ (h M1 (f'.tr f1) _ (.inl ⟨k + 1, by omega, (good_EX hb).mp ex, fun j hj => no j (by omega), rfl⟩))
        exact bX11_explained_15 _ _ ⟨fun _ => res, fun _ => ⟨fun q => absurd q (fun q => nI_pos (n := k + 1) (by omega) (by rw [q]; decide)), fun _ => res⟩⟩
      · rw [nI_1]
        refine ih M1 (f'.tr f1) (fun j hj => ?_)
        by_cases y : j = k + 1
        · rw [y]; exact fun q => nex ((good_EX hb).mpr q)
        · exact no j (by omega)
end Met3
