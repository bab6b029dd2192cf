/-! THE REFERENCE: its small methods -/
theorem lg_neg {x y : Int64} : lg_cmp x y < 0 ↔ x < y := by
  unfold lg_cmp
  by_cases h1 : x > y
  · rw [if_pos h1]
    refine ⟨fun h => absurd h (by decide), fun h => ?_⟩
    have h1 : y < x := h1
    rw [Int64.lt_iff_toInt_lt] at h h1; omega
  · rw [if_neg h1]
    have h1 : ¬ y < x := h1
    by_cases h2 : x = y
    · rw [if_pos h2]
      refine ⟨fun h => absurd h (by decide), fun h => ?_⟩
      rw [h2, Int64.lt_iff_toInt_lt] at h; omega
    · rw [if_neg h2]
      refine ⟨fun _ => ?_, fun _ => by decide⟩
      rw [Int64.lt_iff_toInt_lt] at h1 ⊢
      have : ¬ x.toInt = y.toInt := fun e => h2 (Int64.toInt_inj.mp e)
      omega
theorem lg_pos {x y : Int64} : 0 < lg_cmp x y ↔ y < x := by
  unfold lg_cmp
  by_cases h1 : x > y
  · rw [if_pos h1]
    exact ⟨fun _ => h1, fun _ => by decide⟩
  · rw [if_neg h1]
    refine ⟨fun h => ?_, fun h => absurd h h1⟩
    by_cases h2 : x = y
    · rw [if_pos h2] at h; exact absurd h (by decide)
    · rw [if_neg h2] at h; exact absurd h (by decide)
section Ref1
variable {κ : gK} {M : MM} {Q : Int32 → MM → Prop} {t : TW} {s : ST}
theorem r_in {x : Int32} {lo hi : Int64} (h1 : lo.toInt ≤ x.toInt → x.toInt ≤ hi.toInt → Q 1 M) (h0 : ¬ (lo.toInt ≤ x.toInt ∧ x.toInt ≤ hi.toInt) → Q 0 M) : Cl κ mX11_in [.long x.toInt64, .long lo, .long hi] M Q := by
  have hz : ¬ (lo.toInt ≤ x.toInt ∧ x.toInt ≤ hi.toInt) → G κ mX11_in 17 [.null, .null, .null, .null, .null, .null] [] M Q := fun c => bX11_in_17 (bX11_in_18 0 ⟨Or.inl rfl, h0 c⟩)
  have hx : x.toInt64.toInt = x.toInt := Int32.toInt_toInt64 x
  refine eX11_in _ _ _ (bX11_in_0 _ _ _ ⟨fun c => hz ?_, fun c => ⟨fun c2 => hz ?_, fun c2 => bX11_in_18 1 ⟨Or.inr rfl, h1 ?_ ?_⟩⟩⟩)
  · rw [lg_neg, Int64.lt_iff_toInt_lt, hx] at c; omega
  · rw [lg_pos, Int64.lt_iff_toInt_lt, hx] at c2; omega
  · rw [lg_neg, Int64.lt_iff_toInt_lt, hx] at c; omega
  · rw [lg_pos, Int64.lt_iff_toInt_lt, hx] at c2; omega
/-- between two numbers -/
theorem r_inN {x : Int32} {lo hi : Int64} (a b : Nat) (ha : lo.toInt = a) (hb : hi.toInt = b) (hb2 : b < 2 ^ 31) (h1 : ∀ k, a ≤ k → k ≤ b → x = nI k → Q 1 M) (h0 : (¬ ∃ k, a ≤ k ∧ k ≤ b ∧ x = nI k) → Q 0 M) : Cl κ mX11_in [.long x.toInt64, .long lo, .long hi] M Q := by
  refine r_in (fun c1 c2 => ?_) (fun c => h0 ?_)
  · rw [ha] at c1; rw [hb] at c2
    refine h1 x.toInt.toNat (by omega) (by omega) ?_
    apply Int32.toInt_inj.mp
    rw [nI_toInt (by omega)]
    omega
  · rintro ⟨k, k1, k2, rfl⟩
    rw [ha, hb, nI_toInt (by omega)] at c
    omega
theorem r_inP {x : Int32} {n : Nat} {hi : Int64} (hn : n < 2 ^ 30) (hh : hi.toInt = (n : Int) - 1) (h1 : ∀ k, k < n → x = nI k → Q 1 M) (h0 : ¬ isIx x n → Q 0 M) : Cl κ mX11_in [.long x.toInt64, .long (0 : Int64), .long hi] M Q := by
  refine r_in (fun c1 c2 => ?_) (fun c => h0 ?_)
  · rw [hh] at c2
    have c1 : (0 : Int) ≤ x.toInt := c1
    refine h1 x.toInt.toNat (by omega) ?_
    apply Int32.toInt_inj.mp
    rw [nI_toInt (by omega)]
    omega
  · rintro ⟨k, k1, rfl⟩
    rw [hh, nI_toInt (by omega)] at c
    exact c ⟨by show (0 : Int) ≤ k; omega, by omega⟩
theorem twOk.n9 (h : twOk t) : t.1 ≤ 9 := by rcases h.1 with a | a <;> omega
theorem r_isPerson {x : Int32} (hT : TwR M t) (hk : twOk t) (h1 : ∀ k, k < t.2.2.1 → x = nI k → Q 1 M) (h0 : ¬ isIx x t.2.2.1 → Q 0 M) : Cl κ mX11_isPerson [.ref 119, .int x] M Q := by
  refine eX11_isPerson _ (bX11_isPerson_0 _ ?_)
  rw [hT.2.2.1]
  refine r_inP (n := t.2.2.1) (by have := hk.2.1; omega) ?_ (fun k a b => ⟨Or.inr rfl, h1 k a b⟩) (fun a => ⟨Or.inl rfl, h0 a⟩)
  rw [Int32.toInt_toInt64, show (1 : Int32) = nI 1 from rfl, pk_sub_toInt (by have := hk.2.1; omega) (by decide)]; rfl
theorem r_isLayer {x : Int32} (hT : TwR M t) (hk : twOk t) (h1 : ∀ k, k < t.1 → x = nI k → Q 1 M) (h0 : ¬ isIx x t.1 → Q 0 M) : Cl κ mX11_isLayer [.ref 119, .int x] M Q := by
  refine eX11_isLayer _ (bX11_isLayer_0 _ ?_)
  rw [hT.1]
  refine r_inP (n := t.1) (by have := hk.n9; omega) ?_ (fun k a b => ⟨Or.inr rfl, h1 k a b⟩) (fun a => ⟨Or.inl rfl, h0 a⟩)
  rw [Int32.toInt_toInt64, show (1 : Int32) = nI 1 from rfl, pk_sub_toInt (by have := hk.n9; omega) (by decide)]; rfl
theorem r_areThere {x : Int32} (hT : TwR M t) (hk : twOk t) (h1 : ∀ k, k < 2 ^ t.2.2.1 → x = nI k → Q 1 M) (h0 : ¬ isIx x (2 ^ t.2.2.1) → Q 0 M) : Cl κ mX11_areThere [.ref 119, .int x] M Q := by
  refine eX11_areThere _ (bX11_areThere_0 _ ?_)
  have hp := p2le (n := t.2.2.1) (by have := hk.2.1; omega)
  have hp1 := Nat.one_le_two_pow (n := t.2.2.1)
  rw [hT.2.2.1, all_nI (by have := hk.2.1; omega)]
  refine r_inP (n := 2 ^ t.2.2.1) (by omega) ?_ (fun k a b => ⟨Or.inr rfl, h1 k a b⟩) (fun a => ⟨Or.inl rfl, h0 a⟩)
  rw [Int32.toInt_toInt64, nI_toInt (by omega)]; omega
theorem r_isTown (hT : TwR M t) (hk : twOk t) (h1 : 2 ≤ t.1 → Q 1 M) (h0 : t.1 = 0 → Q 0 M) : Cl κ mX11_isTown [.ref 119] M Q := by
  refine eX11_isTown (bX11_isTown_0 ⟨fun h => ?_, fun h => ?_⟩)
  · refine bX11_isTown_12 0 ⟨Or.inl rfl, h0 ?_⟩
    rw [hT.1] at h
    have := (nI_leI (b := 0) (by have := hk.n9; omega) (by decide)).mp h
    omega
  · refine bX11_isTown_12 1 ⟨Or.inr rfl, h1 ?_⟩
    rcases hk.1 with a | a
    · exact absurd (by rw [hT.1, a.1]; decide) h
    · omega
theorem two_in {z p : Nat} (hz : z + p < 26) : vp_in (nI z + nI p) 26 := by rw [nI_add]; exact vp_in_nI hz (by decide)
theorem two_tN {z p : Nat} (hz : z + p < 26) : (nI z + nI p).toNatClampNeg = z + p := by rw [nI_add]; exact tNI (by omega)
theorem Rv.la (h : Rv M 122 0 s) {p : Nat} (hp : p < 8) : M 122 (2 + p) = nI (s.2.2.1 p) := by have := (h.2.2 p hp).1; rwa [Nat.zero_add] at this
theorem Rv.ea (h : Rv M 122 0 s) {p : Nat} (hp : p < 8) : M 122 (10 + p) = nI (s.2.2.2.1 p) := by have := (h.2.2 p hp).2.1; rwa [Nat.zero_add] at this
theorem Rv.he (h : Rv M 122 0 s) {p : Nat} (hp : p < 8) : M 122 (18 + p) = nI (s.2.2.2.2 p) := by have := (h.2.2 p hp).2.2; rwa [Nat.zero_add] at this
theorem r_layersOf {p : Nat} (hp : p < 8) (hR : Rv M 122 0 s) (h : Q (nI (s.2.2.1 p)) M) : Cl κ mX11_layersOf [.ref 119, .int (nI p)] M Q := by
  refine eX11_layersOf _ (bX11_layersOf_0 _ ?_)
  rw [show (2 : Int32) = nI 2 from rfl, two_tN (by omega), hR.la hp]
  exact ⟨two_in (by omega), h⟩
theorem shr_bit {a x : Nat} (ha : a < 2 ^ 31) (hx : x < 32) : (jshr (nI a) (nI x)) &&& 1 = 1 ↔ a.testBit x = true := by
  rw [jshr_nI ha hx, show (1 : Int32) = nI 1 from rfl, nI_and, show (1 : Nat) = 2 ^ 1 - 1 from rfl, Nat.and_two_pow_sub_one_eq_mod, Nat.testBit_eq_decide_div_mod_eq]
  constructor
  · intro h
    have := nI_inj (by omega) (by decide) h
    simpa using this
  · intro h
    have h2 : a / 2 ^ x % 2 = 1 := by simpa using h
    rw [show (2 : Nat) ^ 1 = 2 from rfl, h2]
theorem r_isOn {p x : Nat} (hp : p < 8) (hx : x < 32) (hR : Rv M 122 0 s) (hb : ∀ p, s.2.2.1 p < 512) (h1 : (s.2.2.1 p).testBit x = true → Q 1 M) (h0 : (s.2.2.1 p).testBit x = false → Q 0 M) : Cl κ mX11_isOn [.ref 119, .int (nI p), .int (nI x)] M Q := by
  have hl : s.2.2.1 p < 2 ^ 31 := by have := hb p; omega
  refine eX11_isOn _ _ (bX11_isOn_0 _ _ (r_layersOf hp hR ⟨fun c => ?_, fun c => ?_⟩))
  · exact bX11_isOn_18 1 ⟨Or.inr rfl, h1 ((shr_bit hl hx).mp c)⟩
  · refine bX11_isOn_18 0 ⟨Or.inl rfl, h0 ?_⟩
    cases hb2 : (s.2.2.1 p).testBit x with
    | true => exact absurd ((shr_bit hl hx).mpr hb2) c
    | false => rfl
theorem r_on {x k : Nat} (hT : TwR M t) (hk : twOk t) (hn : 2 ≤ t.1) (hx : x < 2 ^ t.1) (hk2 : k < 2 ^ 31) (h : Q (nI (rotN t.1 x (k % t.1))) M) : Cl κ mX11_on [.ref 119, .int (nI x), .int (nI k)] M Q := by
  have h9 := hk.n9
  refine eX11_on _ _ (bX11_on_0 _ _ ⟨fun c => ?_, fun c => ⟨c, ?_⟩⟩)
  · rw [hT.1] at c
    exact absurd c (nI_ne0 (by omega) (by omega))
  · refine bX11_on_17 _ _ ?_
    rw [hT.1, irm_nI hk2 (by omega) (by omega), rot_nI (by omega) h9 (Nat.le_of_lt (Nat.mod_lt _ (by omega))) hx]
    exact h
theorem many_step : ∀ x : Nat, x < 512 → x ≠ 0 → popc (x &&& (x - 1)) + 1 = popc x ∧ x &&& (x - 1) < x := by decide +kernel
theorem r_many {x : Nat} (hx : x < 512) (h : Q (nI (popc x)) M) : Cl κ mX11_many [.int (nI x)] M Q := by
  refine eX11_many _ (bX11_many_0 _ ?_)
  have key : ∀ n x c : Nat, x ≤ n → x < 512 → Q (nI (c + popc x)) M → G κ mX11_many 4 [.null, .int (nI c), .int (nI x)] [] M Q := by
    intro n
    induction n with
    | zero =>
      intro x c hn _ hq
      have : x = 0 := by omega
      subst this
      exact bX11_many_4 _ _ ⟨fun _ => hq, fun e => absurd rfl e⟩
    | succ n ih =>
      intro x c hn hx hq
      by_cases h0 : x = 0
      · subst h0
        exact bX11_many_4 _ _ ⟨fun _ => hq, fun e => absurd rfl e⟩
      · obtain ⟨m1, m2⟩ := many_step x hx h0
        refine bX11_many_4 _ _ ⟨fun e => absurd (nI_inj (b := 0) (by omega) (by decide) e) h0, fun _ => ?_⟩
        rintro v1 rfl
        rw [nI_1, show (1 : Int32) = nI 1 from rfl, pk_sub (by omega), nI_and]
        refine ih _ _ (by omega) (by omega) ?_
        rw [show c + 1 + popc (x &&& (x - 1)) = c + popc x by omega]
        exact hq
  exact key x x 0 (Nat.le_refl _) hx (by rw [Nat.zero_add]; exact h)
theorem r_lightOf {day : Nat} (hT : TwR M t) (hk : twOk t) (hd : day < 2 ^ 31) (h : Q (nI (lightF t day)) M) : Cl κ mX11_lightOf [.ref 119, .int (nI day)] M Q := by
  have hD2 := hk.2.2.1
  refine eX11_lightOf _ (bX11_lightOf_0 _ ⟨fun c => ?_, fun c => ⟨c, ?_⟩⟩)
  · rw [hT.2.2.2.1] at c
    have := nI_inj (b := 0) (by omega) (by decide) c
    unfold lightF at h
    rw [if_pos this] at h
    exact bX11_lightOf_22 5 h
  · rw [hT.2.2.2.1] at c ⊢
    have hD : 0 < t.2.2.2.1 := Nat.pos_of_ne_zero fun e => c (by rw [e]; rfl)
    have hm : day % t.2.2.2.1 < t.2.2.2.1 := Nat.mod_lt _ hD
    rw [irm_nI hd hD (by omega), tNI (by omega), hT.2.2.2.2.2 _ hm]
    refine ⟨vp_in_nI (by omega) (by decide), bX11_lightOf_22 _ ?_⟩
    unfold lightF at h
    rw [if_neg (by omega)] at h
    exact h
theorem r_crowed {k x day : Nat} (hT : TwR M t) (hk : twOk t) (hn : 2 ≤ t.1) (hk4 : k ≤ 4) (hx : x < 2 ^ t.1) (hd : day < 2 ^ 31) (h : Q (nI (crowF t.1 k x day)) M) : Cl κ mX11_crowed [.ref 119, .int (nI k), .int (nI x), .int (nI day)] M Q := by
  have h9 := hk.n9
  have m1 : 1 % t.1 = 1 := Nat.mod_eq_of_lt (by omega)
  have on1 : ∀ (Q' : Int32 → MM → Prop), Q' (nI (rotN t.1 x 1)) M → Cl κ mX11_on [.ref 119, .int (nI x), .int 1] M Q' := fun Q' hq => r_on (k := 1) hT hk hn hx (by decide) (by rw [m1]; exact hq)
  unfold crowF at h
  refine eX11_crowed _ _ _ (bX11_crowed_0 _ _ _ ⟨fun c => on1 _ ?_, fun c => ?_, fun c => on1 _ ?_, fun c => ?_, fun c => ⟨fun c2 => on1 _ (bX11_crowed_83 _ ?_), fun c2 => bX11_crowed_83 _ ?_⟩⟩)
  · have e := nI_inj (b := 0) (by omega) (by decide) c
    rw [if_neg (by omega), if_neg (by omega), show strd t.1 k = 1 by unfold strd; rw [if_neg (by omega), if_neg (by omega), if_neg (by omega)]] at h
    exact h
  · have e := nI_inj (b := 1) (by omega) (by decide) c
    rw [if_neg (by omega), if_neg (by omega), show strd t.1 k = 2 % t.1 by unfold strd; rw [if_neg (by omega), if_pos e]] at h
    exact r_on (k := 2) hT hk hn hx (by decide) h
  · have e := nI_inj (b := 2) (by omega) (by decide) c
    rw [if_pos e] at h
    rw [nI_or]; exact h
  · have e := nI_inj (b := 3) (by omega) (by decide) c
    rw [if_neg (by omega), if_neg (by omega), show strd t.1 k = t.1 - 1 by unfold strd; rw [if_neg (by omega), if_neg (by omega), if_pos e]] at h
    rw [hT.1, show (1 : Int32) = nI 1 from rfl, pk_sub (by omega)]
    refine r_on hT hk hn hx (by omega) ?_
    rw [Nat.mod_eq_of_lt (by omega)]; exact h
  · have e : k = 4 := by
      rcases Nat.lt_or_ge k 4 with a | a
      · exact absurd rfl (c k (by omega))
      · omega
    rw [show (2 : Int32) = nI 2 from rfl, irm_nI hd (by decide) (by decide)] at c2
    have := nI_inj (b := 0) (by omega) (by decide) c2
    rw [if_neg (by omega), if_neg (by omega), show strd t.1 k = 1 by unfold strd; rw [if_neg (by omega), if_neg (by omega), if_neg (by omega)]] at h
    exact h
  · have e : k = 4 := by
      rcases Nat.lt_or_ge k 4 with a | a
      · exact absurd rfl (c k (by omega))
      · omega
    rw [show (2 : Int32) = nI 2 from rfl, irm_nI hd (by decide) (by decide)] at c2
    rw [if_neg (by omega), if_pos ⟨e, fun e2 => c2 (by rw [e2]; rfl)⟩] at h
    exact h
end Ref1
