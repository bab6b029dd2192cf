section Ops8
variable {κ : gK} {M : MM} {t : TW} {s : ST}
theorem r_isAside {s0 : ST} {Q : Int32 → MM → Prop} (hT : TwR M t) (ht : twOk t) (hR : Rv M 122 0 s) (hR0 : Rv M 127 0 s0) (hb : ∀ p, s.2.2.1 p < 512) (hb0 : ∀ p, s0.2.2.1 p < 512) (h1 : (∀ p, p < t.2.2.1 → s.2.2.1 p = s0.2.2.1 p) → Q 1 M) (h0 : (¬ ∀ p, p < t.2.2.1 → s.2.2.1 p = s0.2.2.1 p) → Q 0 M) : Cl κ mX11_isAside [.ref 119] M Q := by
  have hP := ht.2.1
  refine eX11_isAside (bX11_isAside_0 ?_)
  refine up_ind t.2.2.1 (fun k => ∀ v, ((v = 1 ∧ ∀ p, p < k → s.2.2.1 p = s0.2.2.1 p) ∨ (v = 0 ∧ ∃ p, p < k ∧ s.2.2.1 p ≠ s0.2.2.1 p)) → G κ mX11_isAside 4 [.ref 119, .int v, .int (nI k)] [] M Q) ?_ ?_ 0 (Nat.zero_le _) 1 (Or.inl ⟨rfl, fun p hp => absurd hp (by omega)⟩)
  · intro v hv
    refine bX11_isAside_4 _ _ ⟨fun _ => ?_, fun c => absurd (by rw [hT.2.2.1]; exact Int32.le_refl _) c⟩
    rcases hv with ⟨rfl, e⟩ | ⟨rfl, p, hp, e⟩
    · exact ⟨Or.inr rfl, h1 e⟩
    · exact ⟨Or.inl rfl, h0 (fun q => e (q p hp))⟩
  · intro k hk ih v hv
    have z : (∃ p, p < k + 1 ∧ s.2.2.1 p ≠ s0.2.2.1 p) → G κ mX11_isAside 36 [.ref 119, .null, .int (nI k)] [] M Q := by
      intro he
      refine bX11_isAside_36 _ (bX11_isAside_37 _ _ ?_)
      rw [nI_1]; exact ih 0 (Or.inr ⟨rfl, he⟩)
    refine bX11_isAside_4 _ _ ⟨fun c => absurd c (stOk.P8 ht hT hk), fun _ => ⟨fun c => z ?_, fun c => ?_⟩⟩
    · rcases hv with ⟨rfl, e⟩ | ⟨rfl, p, hp, e⟩
      · exact absurd c (by decide)
      · exact ⟨p, by omega, e⟩
    · rcases hv with ⟨rfl, e⟩ | ⟨rfl, p, hp, e⟩
      · refine r_layersOf (by omega) hR ?_
        have l0 : M 127 (2 + k) = nI (s0.2.2.1 k) := by have := (hR0.2.2 k (by omega)).1; rwa [Nat.zero_add] at this
        rw [show (2 : Int32) = nI 2 from rfl, two_tN (by omega), l0]
        refine ⟨two_in (by omega), fun c2 => bX11_isAside_37 _ _ ?_, fun c2 => z ⟨k, by omega, fun q => c2 (by rw [q])⟩⟩
        rw [nI_1]
        refine ih 1 (Or.inl ⟨rfl, fun p hp => ?_⟩)
        by_cases q : p = k
        · subst q; exact nI_inj (by have := hb p; omega) (by have := hb0 p; omega) c2
        · exact e p (by omega)
      · exact absurd rfl c
theorem op_asNow (hI : IV M) : Cl κ mX10_asNow [.ref 0] M (fun r M1 => Cl κ mX11_asNow [.ref 119] M1 (fun r' M2 => r = r' ∧ IV M2)) := by
  have hI2 := hI
  obtain ⟨t, s, u, f, a, ht, hs, hu, ho, c1, c2, c3, d1, d2, d3⟩ := hI
  have hP := ht.2.1
  have hd9 := hs.2
  have hb0 := hs.1.b512 ht
  have pe : ∀ sk, stOk t sk → ((∀ p, p < t.2.2.1 → sk.2.2.1 p = s.2.2.1 p) ↔ ∀ p, p < 8 → sk.2.2.1 p = s.2.2.1 p) := by
    intro sk ok
    constructor
    · intro h p _
      rcases Nat.lt_or_ge p t.2.2.1 with q | q
      · exact h p q
      · rw [ok.2.2.2.2.1 p q, hs.1.2.2.2.2.1 p q]
    · intro h p hp; exact h p (by omega)
  obtain ⟨pr, hpr⟩ : ∃ pr : ST → Bool, ∀ z, pr z = true ↔ ∀ p, p < 8 → z.2.2.1 p = s.2.2.1 p := ⟨fun z => (List.range 8).all (fun p => decide (z.2.2.1 p = s.2.2.1 p)), fun z => by simp⟩
  refine eX10_asNow (bX10_asNow_0 (s_isThere twO_1 c3.1 ht (fun hn => b1 ?_) (fun hn => b0 ?_)))
  · refine s_copyFrom stO_17 stO_13 c1 (by omega) (fun M1 f1 s1 => ?_)
    have ref : ∀ Mx, fr 17 21 M Mx → ∀ r, r = fsU pr (dawnS t) 2000 1 (dawnS t s) → Cl κ mX11_asNow [.ref 119] Mx (fun r' M2 => r = r' ∧ IV M2) := by
      intro Mx fx r hr
      have d1' := d1.fr fx (by omega)
      have d3' : RO _ t a := d3.fr fx (by decide)
      refine eX11_asNow (bX11_asNow_0 (r_isTown d3'.1 ht (fun _ => b1 ?_) (fun e => by omega)))
      refine r_asides d1' (fun M2 f2 r2 => ?_)
      have fin : ∀ Mk k v w, (∀ c, c ≠ 122 → c ≠ 127 → Mk c = Mx c) → Rv Mk 127 0 s → isB w → (w = 0 → v = -1) → (w = 1 → v = nI k) → v = r → G κ mX11_asNow 45 [.ref 119, .int (nI k), .int w] [] Mk (fun r' M2 => r = r' ∧ IV M2) := by
        intro Mk k v w hk1 hk2 hw hk4 hk5 hv
        refine bX11_asNow_45 _ _ (r_backs hk2 (fun M4 f4 r4 => ?_))
        have iv : IV M4 := IV.tried ht hs hu ho c1 c2 c3 d2 d3 fx (fun c h1 h2 => by rw [f4 c (by omega), hk1 c h1 h2]) r4
        refine ⟨fun c => bX11_asNow_58 _ ⟨by rw [← hv, hk4 c], iv⟩, fun c => bX11_asNow_58 _ ⟨?_, iv⟩⟩
        rcases hw with h | h
        · exact absurd h c
        · rw [← hv, hk5 h]
      have loop : ∀ m k Mk sk, k + m = 2000 → (∀ c, c ≠ 122 → c ≠ 127 → Mk c = Mx c) → Rv Mk 122 0 sk → Rv Mk 127 0 s → stOk t sk → sk.1 + m ≤ 1000000 → fsU pr (dawnS t) m (k + 1) (dawnS t sk) = r → G κ mX11_asNow 18 [.ref 119, .int (nI k), .int 0] [] Mk (fun r' M2 => r = r' ∧ IV M2) := by
        intro m
        induction m with
        | zero =>
          intro k Mk sk hkm hk1 hr1 hr2 ok1 dd e
          have : k = 2000 := by omega
          subst this
          exact bX11_asNow_18 _ _ ⟨fun _ => fin Mk 2000 (-1) 0 hk1 hr2 (Or.inl rfl) (fun _ => rfl) (fun h => absurd h (by decide)) e, fun c => absurd (by decide) c⟩
        | succ m ih =>
          intro k Mk sk hkm hk1 hr1 hr2 ok1 dd e
          rw [fsU_s] at e
          have tk : TwR Mk t := by
            unfold TwR; rw [hk1 119 (by decide) (by decide), hk1 120 (by decide) (by decide), hk1 121 (by decide) (by decide)]; exact d3'.1
          have ok2 := dawnS_ok ht ok1 (by omega)
          refine bX11_asNow_18 _ _ ⟨fun c => ?_, fun _ => ⟨fun _ => ?_, fun c => absurd rfl c⟩⟩
          · have := (nI_leI (a := 2000) (by decide) (by omega)).mp c
            omega
          refine r_goesOn (n := 1) (by decide) tk ht hr1 ok1 (by omega) (fun M' f' r' => ?_)
          have r' : Rv M' 122 0 (dawnS t sk) := r'
          have k1' : ∀ c, c ≠ 122 → c ≠ 127 → M' c = Mx c := fun c h1 h2 => by rw [f' c (by omega), hk1 c h1 h2]
          rw [nI_1]
          refine r_isAside (tk.fr f' (by omega)) ht r' (hr2.fr f' (by omega)) (ok2.b512 ht) hb0 (fun h => ?_) (fun h => ?_)
          · rw [if_pos ((hpr _).mpr ((pe _ ok2).mp h))] at e
            have last : G κ mX11_asNow 45 [.ref 119, .int (nI (k + 1)), .int 1] [] M' (fun r' M2 => r = r' ∧ IV M2) := fin M' (k + 1) (nI (k + 1)) 1 k1' (hr2.fr f' (by omega)) (Or.inr rfl) (fun h => absurd h (by decide)) (fun _ => rfl) e
            exact bX11_asNow_18 _ _ ⟨fun _ => last, fun _ => ⟨fun c => absurd c (by decide), fun _ => last⟩⟩
          · rw [if_neg (fun q => h ((pe _ ok2).mpr ((hpr _).mp q)))] at e
            exact ih (k + 1) M' (dawnS t sk) (by omega) k1' r' (hr2.fr f' (by omega)) ok2 (by show sk.1 + 1 + m ≤ _; omega) e
      exact loop 2000 0 M2 s rfl (fun c h1 h2 => f2 c (by omega)) (d1'.fr f2 (by omega)) r2 hs.1 (by omega) hr.symm
    have loop : ∀ m k Mk sk, k + m = 2001 → fr 17 21 M Mk → Sv Mk 17 sk → stOk t sk → sk.1 + m ≤ 1000000 → fsU pr (dawnS t) m k (dawnS t sk) = fsU pr (dawnS t) 2000 1 (dawnS t s) → G κ mX10_asNow 26 [.ref 0, .int (nI k)] [] Mk (fun r M1 => Cl κ mX11_asNow [.ref 119] M1 (fun r' M2 => r = r' ∧ IV M2)) := by
      intro m
      induction m with
      | zero =>
        intro k Mk sk hkm fk Sk ok1 dd e
        have : k = 2001 := by omega
        subst this
        exact bX10_asNow_26 _ ⟨fun _ => ref Mk fk _ e, fun c => absurd (by decide) c⟩
      | succ m ih =>
        intro k Mk sk hkm fk Sk ok1 dd e
        rw [fsU_s] at e
        have ok2 := dawnS_ok ht ok1 (by omega)
        refine bX10_asNow_26 _ ⟨fun c => ?_, fun _ => ?_⟩
        · have := (nI_ltI (a := 2000) (by decide) (by omega)).mp c
          omega
        refine s_passDawn stO_17 twO_1 (by decide) (by decide) (c3.1.fr fk (by omega)) ht hn Sk ok1 (fun M' f' S' => ?_)
        have fk' := fk.tr f'
        refine s_isWhere stO_17 stO_13 S' (c1.fr fk' (by omega)) (ok2.b512 ht) hb0 (fun h => b1 ?_) (fun h => b0 ?_)
        · rw [if_pos ((hpr _).mpr h)] at e
          exact ref M' fk' _ e
        · rw [if_neg (fun q => h ((hpr _).mp q))] at e
          rw [nI_1]
          exact ih (k + 1) M' (dawnS t sk) (by omega) fk' S' ok2 (by show sk.1 + 1 + m ≤ _; omega) e
    exact loop 2000 1 M1 s rfl f1 s1 hs.1 (by omega) rfl
  · exact eX11_asNow (bX11_asNow_0 (r_isTown d3.1 ht (fun e => by omega) (fun _ => b0 ⟨rfl, hI2⟩)))
/-! who knows -/
theorem rotN_tb {n x k i : Nat} (hn : n ≠ 0) : (rotN n x k).testBit i = (decide (i < n) && ((decide (k ≤ i) && x.testBit (i - k)) || x.testBit (i + (n - k)))) := by
  unfold rotN
  rw [if_neg hn, Nat.testBit_mod_two_pow, Nat.testBit_or, Nat.testBit_mul_two_pow, Nat.testBit_div_two_pow]
/-- the layers where something of these persons is seen -/
def orR (n sg : Nat) (la : Nat → Nat) (x : Nat) : Nat → Nat
  | 0 => 0
  | k + 1 => if x.testBit k = true then orR n sg la x k ||| rotN n (la k) sg else orR n sg la x k
theorem orR_tb (n sg : Nat) (la : Nat → Nat) (x i : Nat) : ∀ k, (orR n sg la x k).testBit i = true ↔ ∃ p, p < k ∧ x.testBit p = true ∧ (rotN n (la p) sg).testBit i = true := by
  intro k
  induction k with
  | zero => simp [orR]
  | succ k ih =>
    unfold orR
    by_cases h : x.testBit k = true
    · rw [if_pos h, Nat.testBit_or, Bool.or_eq_true, ih]
      constructor
      · rintro (⟨p, a, b, c⟩ | c)
        · exact ⟨p, by omega, b, c⟩
        · exact ⟨k, by omega, h, c⟩
      · rintro ⟨p, a, b, c⟩
        by_cases e : p = k
        · subst e; exact Or.inr c
        · exact Or.inl ⟨p, by omega, b, c⟩
    · rw [if_neg h, ih]
      constructor
      · rintro ⟨p, a, b, c⟩; exact ⟨p, by omega, b, c⟩
      · rintro ⟨p, a, b, c⟩
        by_cases e : p = k
        · subst e; exact absurd b h
        · exact ⟨p, by omega, b, c⟩
theorem orR_eq {n sg : Nat} {la : Nat → Nat} {x P : Nat} (hn : n ≠ 0) (hP : P ≤ 8) (h0 : ∀ p, P ≤ p → la p = 0) : orR n sg la x P = rotN n (orL la x 8) sg := tb_ext fun i => by
  rw [orR_tb, rotN_tb hn]
  simp only [Bool.and_eq_true, Bool.or_eq_true, decide_eq_true_eq, orL_tb]
  constructor
  · rintro ⟨p, a, b, c⟩
    rw [rotN_tb hn] at c
    simp only [Bool.and_eq_true, Bool.or_eq_true, decide_eq_true_eq] at c
    refine ⟨c.1, ?_⟩
    rcases c.2 with c2 | c2
    · exact Or.inl ⟨c2.1, p, by omega, b, c2.2⟩
    · exact Or.inr ⟨p, by omega, b, c2⟩
  · rintro ⟨h, h2⟩
    have bd : ∀ p j, (la p).testBit j = true → p < P := by
      intro p j hj
      rcases Nat.lt_or_ge p P with q | q
      · exact q
      · rw [h0 p q] at hj; simp at hj
    rcases h2 with ⟨h3, p, a, b, c⟩ | ⟨p, a, b, c⟩
    · refine ⟨p, bd p _ c, b, ?_⟩
      rw [rotN_tb hn]; simp [h, h3, c]
    · refine ⟨p, bd p _ c, b, ?_⟩
      rw [rotN_tb hn]; simp [h, c]
def knS (n sg : Nat) (la : Nat → Nat) (x : Nat) : Nat := x ||| whoF la (rotN n (orL la x 8) sg)
def knF (n sg : Nat) (la : Nat → Nat) (x : Nat) : Nat → Nat
  | 0 => x
  | k + 1 => knS n sg la (knF n sg la x k)
theorem knF_lt {n sg : Nat} {la : Nat → Nat} {x : Nat} (hx : x < 256) : ∀ k, knF n sg la x k < 2 ^ 8 := by
  intro k
  induction k with
  | zero => exact hx
  | succ k ih => exact or_lt ih (whoF_lt _ _)
theorem op_know (hI : IV M) (x y : Int32) : Cl κ mX10_know [.ref 0, .int x, .int y] M (fun r M1 => Cl κ mX11_know [.ref 119, .int x, .int y] M1 (fun r' M2 => r = r' ∧ IV M2)) := by
  have hI2 := hI
  obtain ⟨t, s, u, f, a, ht, hs, hu, ho, c1, c2, c3, d1, d2, d3⟩ := hI
  have hP := ht.2.1
  have h9 := ht.n9
  have hb5 := hs.1.b512 ht
  refine eX10_know _ _ (bX10_know_0 _ _ (s_hasPerson twO_1 c3.1 ht (fun p hp e => b1 ?_) (fun hn => b0 ?_)))
  · subst e
    have p8 : p < 8 := by omega
    have hn : 2 ≤ t.1 := by rcases ht.1 with z | z <;> omega
    have hsg : t.2.1 < t.1 := by rcases ht.1 with z | z <;> omega
    have no : (¬ ∃ j, 0 ≤ j ∧ j ≤ 9 ∧ y = nI j) → G κ mX10_know 24 [.null, .null, .null, .null, .null, .null] [] M (fun r M1 => Cl κ mX11_know [.ref 119, .int (nI p), .int y] M1 (fun r' M2 => r = r' ∧ IV M2)) := fun hn =>
      bX10_know_24 (eX11_know _ _ (bX11_know_0 _ _ (r_isPerson d3.1 ht (fun _ _ _ => b1 (r_inN 0 9 rfl rfl (by decide) (fun j k1 k2 e => absurd ⟨j, k1, k2, e⟩ hn) (fun _ => b0 ⟨rfl, hI2⟩))) (fun hn => absurd ⟨p, hp, rfl⟩ hn))))
    refine ⟨fun c => no (rg_lo (a := 0) (by decide) (by decide) c), fun c => ⟨fun c' => ?_, fun c' => no (rg_hi (by decide) c')⟩⟩
    obtain ⟨n, n1, n2, rfl⟩ := rg_in (a := 0) (b := 9) (by decide) (by decide) c c'
    rw [one_shl (by omega)]
    have p2 : 2 ^ p < 2 ^ 8 := Nat.pow_lt_pow_right (by decide) p8
    have kl := knF_lt (n := t.1) (sg := t.2.1) (la := s.2.2.1) (x := 2 ^ p) p2
    refine up_ind n (fun k => G κ mX10_know 34 [.ref 0, .null, .int (nI n), .int (nI (knF t.1 t.2.1 s.2.2.1 (2 ^ p) k)), .int (nI k), .null] [] M (fun r M1 => Cl κ mX11_know [.ref 119, .int (nI p), .int (nI n)] M1 (fun r' M2 => r = r' ∧ IV M2))) ?_ ?_ 0 (Nat.zero_le _)
    · refine bX10_know_34 _ _ _ ⟨fun _ => ?_, fun c => absurd (Int32.le_refl _) c⟩
      refine eX11_know _ _ (bX11_know_0 _ _ (r_isPerson d3.1 ht (fun _ _ _ => b1 (r_inN 0 9 rfl rfl (by decide) (fun _ _ _ _ => b1 ?_) (fun hn => absurd ⟨n, n1, n2, rfl⟩ hn))) (fun hn => absurd ⟨p, hp, rfl⟩ hn)))
      rw [one_shl (by omega)]
      refine up_ind n (fun k => G κ mX11_know 33 [.ref 119, .null, .int (nI n), .int (nI (knF t.1 t.2.1 s.2.2.1 (2 ^ p) k)), .int (nI k), .null, .null] [] M (fun r' M2 => nI (knF t.1 t.2.1 s.2.2.1 (2 ^ p) n) = r' ∧ IV M2)) ?_ ?_ 0 (Nat.zero_le _)
      · exact bX11_know_33 _ _ _ ⟨fun _ => ⟨rfl, hI2⟩, fun c => absurd (Int32.le_refl _) c⟩
      · intro k hk ih
        refine bX11_know_33 _ _ _ ⟨fun c => absurd c (nI_ge hk (by omega)), fun _ => ?_⟩
        have hkl := kl k
        have ih : G κ mX11_know 33 [.ref 119, .null, .int (nI n), .int (nI (knS t.1 t.2.1 s.2.2.1 (knF t.1 t.2.1 s.2.2.1 (2 ^ p) k))), .int (nI (k + 1)), .null, .null] [] M (fun r' M2 => nI (knF t.1 t.2.1 s.2.2.1 (2 ^ p) n) = r' ∧ IV M2) := ih
        generalize knF t.1 t.2.1 s.2.2.1 (2 ^ p) k = w at *
        refine up_ind t.2.2.1 (fun j => G κ mX11_know 45 [.ref 119, .null, .int (nI n), .int (nI w), .int (nI k), .int (nI (orR t.1 t.2.1 s.2.2.1 w j)), .int (nI j)] [] M (fun r' M2 => nI (knF t.1 t.2.1 s.2.2.1 (2 ^ p) n) = r' ∧ IV M2)) ?_ ?_ 0 (Nat.zero_le _)
        · refine bX11_know_45 _ _ _ _ _ ⟨fun _ => ?_, fun c => absurd (by rw [d3.1.2.2.1]; exact Int32.le_refl _) c⟩
          rw [orR_eq (by omega) hP hs.1.2.2.2.2.1]
          have hsl : rotN t.1 (orL s.2.2.1 w 8) t.2.1 < 2 ^ t.1 := rotN_lt (by omega)
          have hp9 := p2le h9
          unfold knS at ih
          generalize rotN t.1 (orL s.2.2.1 w 8) t.2.1 = sn at *
          refine up_ind t.2.2.1 (fun j => G κ mX11_know 96 [.ref 119, .null, .int (nI n), .int (nI (w ||| bits (fun q => decide (s.2.2.1 q &&& sn ≠ 0)) j)), .int (nI k), .int (nI sn), .int (nI j)] [] M (fun r' M2 => nI (knF t.1 t.2.1 s.2.2.1 (2 ^ p) n) = r' ∧ IV M2)) ?_ ?_ 0 (Nat.zero_le _) |> fun z => by rw [show bits (fun q => decide (s.2.2.1 q &&& sn ≠ 0)) 0 = 0 from rfl, Nat.or_zero] at z; exact z
          · refine bX11_know_96 _ _ _ _ _ ⟨fun _ => ?_, fun c => absurd (by rw [d3.1.2.2.1]; exact Int32.le_refl _) c⟩
            rw [bits_P hP (fun q hq => by rw [hs.1.2.2.2.2.1 q hq]; simp), nI_1]
            exact ih
          · intro j hj ih2
            refine bX11_know_96 _ _ _ _ _ ⟨fun c => absurd c (stOk.P8 ht d3.1 hj), fun _ => r_layersOf (by omega) d1 ?_⟩
            rw [nI_and]
            have hl : s.2.2.1 j &&& sn < 2 ^ 31 := Nat.lt_of_le_of_lt Nat.and_le_left (by have := hb5 j; omega)
            unfold bits at ih2
            refine ⟨fun c => bX11_know_126 _ _ _ _ _ _ ?_, fun c => bX11_know_126 _ _ _ _ _ _ ?_⟩
            · have e := nI_inj (b := 0) hl (by decide) c
              rw [if_neg (by simp [e])] at ih2
              rw [nI_1, show (0 : Int32) = nI 0 from rfl, nI_or, Nat.or_zero]; exact ih2
            · have e : s.2.2.1 j &&& sn ≠ 0 := fun q => c (by rw [q]; rfl)
              rw [if_pos (by simp [e])] at ih2
              rw [nI_1, one_shl (by omega), nI_or, Nat.or_assoc]; exact ih2
        · intro j hj ih2
          have ih2 : G κ mX11_know 45 [.ref 119, .null, .int (nI n), .int (nI w), .int (nI k), .int (nI (if w.testBit j = true then orR t.1 t.2.1 s.2.2.1 w j ||| rotN t.1 (s.2.2.1 j) t.2.1 else orR t.1 t.2.1 s.2.2.1 w j)), .int (nI (j + 1))] [] M (fun r' M2 => nI (knF t.1 t.2.1 s.2.2.1 (2 ^ p) n) = r' ∧ IV M2) := ih2
          refine bX11_know_45 _ _ _ _ _ ⟨fun c => absurd c (stOk.P8 ht d3.1 hj), fun _ => ⟨fun c => r_layersOf (by omega) d1 ?_, fun c => bX11_know_84 _ _ _ _ _ _ ?_⟩⟩
          · have hb := (shr_bit (by omega) (by omega)).mp c
            rw [if_pos hb] at ih2
            rw [d3.1.2.1]
            refine r_on d3.1 ht hn (hs.1.2.2.1 j) (by omega) (bX11_know_84 _ _ _ _ _ _ ?_)
            rw [Nat.mod_eq_of_lt hsg, nI_1, nI_or]; exact ih2
          · have hb : ¬ w.testBit j = true := fun q => c ((shr_bit (by omega) (by omega)).mpr q)
            rw [if_neg hb] at ih2
            rw [nI_1, show (0 : Int32) = nI 0 from rfl, nI_or, Nat.or_zero]; exact ih2
    · intro k hk ih
      have hkl := kl k
      refine bX10_know_34 _ _ _ ⟨fun c => absurd c (nI_ge hk (by omega)), fun _ => s_layersOf stO_13 c1 hb5 (by omega) ?_⟩
      rw [c3.1.2.1]
      refine s_goneOn twO_1 c3.1 ht (by omega) (orL_lt hs.1.2.2.1 8) (s_whoIsOn stO_13 c1 hb5 ?_)
      rw [nI_or, nI_1]; exact ih
  · exact eX11_know _ _ (bX11_know_0 _ _ (r_isPerson d3.1 ht (fun k2 hk2 e2 => absurd ⟨k2, hk2, e2⟩ hn) (fun _ => b0 ⟨rfl, hI2⟩)))
end Ops8
