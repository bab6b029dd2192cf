section Ops7
variable {κ : gK} {M : MM}
/-- nothing is changed but what is for trying -/
theorem IV.tried {M M1 M2 : MM} {t : TW} {s : ST} {u : Nat} {f : Nat → ST} {a : AO} (ht : twOk t) (hs : okS t s) (hu : okU t u f) (ho : okO t a) (c1 : Sv M 13 s) (c2 : PaC M u f) (c3 : CO M t a) (d2 : PaR M u f) (d3 : RO M t a)
    (f1 : fr 17 21 M M1) (f2 : ∀ c, c ≠ 122 → c ≠ 127 → M2 c = M1 c) (g1 : Rv M2 122 0 s) : IV M2 := by
  have cc : ∀ c, c < 119 → M2 c = M1 c := fun c hc => f2 c (by omega) (by omega)
  have k : ∀ c, c < 17 ∨ (21 ≤ c ∧ c < 119) → M2 c = M c := fun c hc => by rw [cc c (by omega), f1 c (by omega)]
  have k2 : ∀ c, c ≠ 122 → c ≠ 127 → 119 ≤ c → M2 c = M c := fun c h1 h2 h3 => by rw [f2 c h1 h2, f1 c (by omega)]
  refine ⟨t, s, u, f, a, ht, hs, hu, ho, c1.kept (k _ (by omega)) (k _ (by omega)) (k _ (by omega)) (k _ (by omega)), ?_, c3.kept (fun c hc => k c (by unfold cC at hc; omega)), g1, d2.kept (by rw [k2 119 (by decide) (by decide) (by decide)]) (k2 126 (by decide) (by decide) (by decide)), d3.kept (fun c hc => by unfold cR at hc; exact k2 c (by omega) (by omega) (by omega)) (fun q _ => by rw [k2 119 (by decide) (by decide) (by decide)])⟩
  obtain ⟨h1, x, h2, h3, h4, h5⟩ := c2
  refine ⟨h1, x, h2, by rw [k 21 (by omega)]; exact h3, by rw [k 21 (by omega)]; exact h4, fun j hj => ?_⟩
  have := Nat.mod_lt (x + 15 - j) (show 0 < 16 by decide)
  exact (h5 j hj).kept (k _ (by omega)) (k _ (by omega)) (k _ (by omega)) (k _ (by omega))
theorem itS_1 (f : ST → ST) (s : ST) : itS f 1 s = f s := rfl
theorem op_layers (hI : IV M) (x y : Int32) : Cl κ mX10_layers [.ref 0, .int x, .int y] M (fun r M1 => Cl κ mX11_layers [.ref 119, .int x, .int y] M1 (fun r' M2 => r = r' ∧ IV M2)) := by
  have hI2 := hI
  obtain ⟨t, s, u, f, a, ht, hs, hu, ho, c1, c2, c3, d1, d2, d3⟩ := hI
  have hP := ht.2.1
  have hd9 := hs.2
  refine eX10_layers _ _ (bX10_layers_0 _ _ (s_hasPerson twO_1 c3.1 ht (fun p hp e => b1 ?_) (fun hn => b0 ?_)))
  · subst e
    have p8 : p < 8 := by omega
    have hn : 2 ≤ t.1 := by rcases ht.1 with z | z <;> omega
    have no : (¬ ∃ j, 0 ≤ j ∧ j ≤ 200 ∧ y = nI j) → G κ mX10_layers 25 [.null, .null, .null, .null] [] M (fun r M1 => Cl κ mX11_layers [.ref 119, .int (nI p), .int y] M1 (fun r' M2 => r = r' ∧ IV M2)) := fun hn =>
      bX10_layers_25 (eX11_layers _ _ (bX11_layers_0 _ _ (r_isPerson d3.1 ht (fun _ _ _ => b1 (r_inN 0 200 rfl rfl (by decide) (fun j k1 k2 e => absurd ⟨j, k1, k2, e⟩ hn) (fun _ => b0 ⟨rfl, hI2⟩))) (fun hn => absurd ⟨p, hp, rfl⟩ hn))))
    refine ⟨fun c => no (rg_lo (a := 0) (by decide) (by decide) c), fun c => ⟨fun c' => ?_, fun c' => no (rg_hi (by decide) c')⟩⟩
    obtain ⟨n, n1, n2, rfl⟩ := rg_in (a := 0) (b := 200) (by decide) (by decide) c c'
    obtain ⟨ok1, ok2⟩ := itS_ok ht n s hs.1 (by omega)
    refine s_copyFrom stO_17 stO_13 c1 (by omega) (fun M1 f1 s1 => ?_)
    refine up_ind n (fun j => ∀ Mj sj, fr 17 21 M Mj → Sv Mj 17 sj → stOk t sj → sj.1 + (n - j) ≤ 1000000 → itS (dawnS t) (n - j) sj = itS (dawnS t) n s → G κ mX10_layers 41 [.ref 0, .int (nI p), .int (nI n), .int (nI j)] [] Mj (fun r M1 => Cl κ mX11_layers [.ref 119, .int (nI p), .int (nI n)] M1 (fun r' M2 => r = r' ∧ IV M2))) ?_ ?_ 0 (Nat.zero_le _) M1 s f1 s1 hs.1 (by omega) rfl
    · intro Mj sj fj Sj okj _ e
      rw [Nat.sub_self] at e
      have e : sj = itS (dawnS t) n s := e
      refine bX10_layers_41 _ _ _ ⟨fun _ => ⟨v8 p8, ?_⟩, fun c => absurd (Int32.le_refl _) c⟩
      rw [t8 p8, (Sj.2.2 p p8).1, e]
      have d1' := d1.fr fj (by omega)
      have d3' : RO _ t a := d3.fr fj (by decide)
      refine eX11_layers _ _ (bX11_layers_0 _ _ (r_isPerson d3'.1 ht (fun _ _ _ => b1 (r_inN 0 200 rfl rfl (by decide) (fun _ _ _ _ => b1 ?_) (fun hn => absurd ⟨n, n1, n2, rfl⟩ hn))) (fun hn => absurd ⟨p, hp, rfl⟩ hn)))
      refine r_asides d1' (fun M2 f2 r2 => ?_)
      refine r_goesOn (by omega) (d3'.1.fr f2 (by omega)) ht (d1'.fr f2 (by omega)) hs.1 (by omega) (fun M3 f3 r3 => ?_)
      refine r_layersOf p8 r3 (r_backs (r2.fr f3 (by omega)) (fun M4 f4 r4 => ⟨rfl, ?_⟩))
      exact IV.tried ht hs hu ho c1 c2 c3 d2 d3 fj (fun c h1 h2 => by rw [f4 c (by omega), f3 c (by omega), f2 c (by omega)]) r4
    · intro j hj ih Mj sj fj Sj okj dj e
      refine bX10_layers_41 _ _ _ ⟨fun c => absurd c (nI_ge hj (by omega)), fun _ => ?_⟩
      refine s_passDawn stO_17 twO_1 (by decide) (by decide) (c3.1.fr fj (by omega)) ht hn Sj okj (fun M' f' S' => ?_)
      rw [nI_1]
      exact ih M' (dawnS t sj) (fj.tr f') S' (dawnS_ok ht okj (by omega)) (by show sj.1 + 1 + _ ≤ _; omega) (by rw [← e, show n - j = (n - (j + 1)) + 1 by omega]; rfl)
  · exact eX11_layers _ _ (bX11_layers_0 _ _ (r_isPerson d3.1 ht (fun k2 hk2 e2 => absurd ⟨k2, hk2, e2⟩ hn) (fun _ => b0 ⟨rfl, hI2⟩)))
/-- behind how many dawns something is so first -/
def fsU (p : ST → Bool) (f : ST → ST) : Nat → Nat → ST → Int32
  | 0, _, _ => -1
  | m + 1, k, s => if p s = true then nI k else fsU p f m (k + 1) (f s)
theorem fsU_s (p : ST → Bool) (f : ST → ST) (m k : Nat) (s : ST) : fsU p f (m + 1) k s = if p s = true then nI k else fsU p f m (k + 1) (f s) := rfl
theorem op_first (hI : IV M) (x y : Int32) : Cl κ mX10_first [.ref 0, .int x, .int y] M (fun r M1 => Cl κ mX11_first [.ref 119, .int x, .int y] M1 (fun r' M2 => r = r' ∧ IV M2)) := by
  have hI2 := hI
  obtain ⟨t, s, u, f, a, ht, hs, hu, ho, c1, c2, c3, d1, d2, d3⟩ := hI
  have hP := ht.2.1
  have h9 := ht.n9
  have hd9 := hs.2
  refine eX10_first _ _ (bX10_first_0 _ _ (s_hasPerson twO_1 c3.1 ht (fun p hp e => b1 (s_hasLayer twO_1 c3.1 ht (fun q hq e' => b1 ?_) (fun hn => b0 (bX10_first_22 ?_)))) (fun hn => b0 (bX10_first_22 ?_))))
  · subst e; subst e'
    have p8 : p < 8 := by omega
    have hn : 2 ≤ t.1 := by rcases ht.1 with z | z <;> omega
    refine s_copyFrom stO_17 stO_13 c1 (by omega) (fun M1 f1 s1 => ?_)
    have ref : ∀ Mx, fr 17 21 M Mx → ∀ r, r = fsU (fun z => (z.2.2.1 p).testBit q) (dawnS t) 201 0 s → Cl κ mX11_first [.ref 119, .int (nI p), .int (nI q)] Mx (fun r' M2 => r = r' ∧ IV M2) := by
      intro Mx fx r hr
      have d1' := d1.fr fx (by omega)
      have d3' : RO _ t a := d3.fr fx (by decide)
      refine eX11_first _ _ (bX11_first_0 _ _ (r_isPerson d3'.1 ht (fun _ _ _ => b1 (r_isLayer d3'.1 ht (fun _ _ _ => b1 ?_) (fun hn => absurd ⟨q, hq, rfl⟩ hn))) (fun hn => absurd ⟨p, hp, rfl⟩ hn)))
      refine r_asides d1' (fun M2 f2 r2 => ?_)
      have fin : ∀ Mk k v, (∀ c, c ≠ 122 → c ≠ 127 → Mk c = Mx c) → Rv Mk 127 0 s → k ≤ 201 → (k = 201 → v = -1) → (k < 201 → v = nI k) → v = r → G κ mX11_first 52 [.ref 119, .null, .null, .int (nI k)] [] Mk (fun r' M2 => r = r' ∧ IV M2) := by
        intro Mk k v hk1 hk2 hk3 hk4 hk5 hv
        refine bX11_first_52 _ (r_backs hk2 (fun M4 f4 r4 => ?_))
        have iv : IV M4 := IV.tried ht hs hu ho c1 c2 c3 d2 d3 fx (fun c h1 h2 => by rw [f4 c (by omega), hk1 c h1 h2]) r4
        refine ⟨fun c => bX11_first_68 _ ⟨?_, iv⟩, fun c => bX11_first_68 _ ⟨?_, iv⟩⟩
        · have := (nI_leI (a := 201) (by decide) (by omega)).mp c
          rw [← hv, hk4 (by omega)]
        · have : ¬ 201 ≤ k := fun e => c (nI_le (a := 201) e (by omega))
          rw [← hv, hk5 (by omega)]
      have loop : ∀ m k Mk sk, k + m = 201 → (∀ c, c ≠ 122 → c ≠ 127 → Mk c = Mx c) → Rv Mk 122 0 sk → Rv Mk 127 0 s → stOk t sk → sk.1 + m ≤ 1000000 → fsU (fun z => (z.2.2.1 p).testBit q) (dawnS t) m k sk = r → G κ mX11_first 25 [.ref 119, .int (nI p), .int (nI q), .int (nI k)] [] Mk (fun r' M2 => r = r' ∧ IV M2) := by
        intro m
        induction m with
        | zero =>
          intro k Mk sk hkm hk1 hr1 hr2 ok1 dd e
          have : k = 201 := by omega
          subst this
          exact bX11_first_25 _ _ _ ⟨fun _ => fin Mk 201 (-1) hk1 hr2 (Nat.le_refl _) (fun _ => rfl) (fun h => absurd h (Nat.lt_irrefl _)) e, fun c => absurd (by decide) c⟩
        | succ m ih =>
          intro k Mk sk hkm hk1 hr1 hr2 ok1 dd e
          rw [fsU_s] at e
          have tk : TwR Mk t := by
            unfold TwR; rw [hk1 119 (by decide) (by decide), hk1 120 (by decide) (by decide), hk1 121 (by decide) (by decide)]; exact d3'.1
          refine bX11_first_25 _ _ _ ⟨fun c => ?_, fun _ => r_isOn p8 (by omega) hr1 (ok1.b512 ht) (fun h => b1 ?_) (fun h => b0 ?_)⟩
          · have := (nI_leI (a := 201) (by decide) (by omega)).mp c
            omega
          · rw [if_pos h] at e
            exact fin Mk k (nI k) hk1 hr2 (by omega) (fun h => by omega) (fun _ => rfl) e
          · rw [if_neg (by rw [h]; decide)] at e
            refine r_goesOn (n := 1) (by decide) tk ht hr1 ok1 (by omega) (fun M' f' r' => ?_)
            rw [nI_1]
            exact ih (k + 1) M' (dawnS t sk) (by omega) (fun c h1 h2 => by rw [f' c (by omega), hk1 c h1 h2]) r' (hr2.fr f' (by omega)) (dawnS_ok ht ok1 (by omega)) (by show sk.1 + 1 + m ≤ _; omega) e
      exact loop 201 0 M2 s rfl (fun c h1 h2 => f2 c (by omega)) (d1'.fr f2 (by omega)) r2 hs.1 (by omega) hr.symm
    have loop : ∀ m k Mk sk, k + m = 201 → fr 17 21 M Mk → Sv Mk 17 sk → stOk t sk → sk.1 + m ≤ 1000000 → fsU (fun z => (z.2.2.1 p).testBit q) (dawnS t) m k sk = fsU (fun z => (z.2.2.1 p).testBit q) (dawnS t) 201 0 s → G κ mX10_first 38 [.ref 0, .int (nI p), .int (nI q), .int (nI k)] [] Mk (fun r M1 => Cl κ mX11_first [.ref 119, .int (nI p), .int (nI q)] M1 (fun r' M2 => r = r' ∧ IV M2)) := by
      intro m
      induction m with
      | zero =>
        intro k Mk sk hkm fk Sk ok1 dd e
        have : k = 201 := by omega
        subst this
        exact bX10_first_38 _ _ _ ⟨fun _ => ref Mk fk _ e, fun c => absurd (by decide) c⟩
      | succ m ih =>
        intro k Mk sk hkm fk Sk ok1 dd e
        rw [fsU_s] at e
        refine bX10_first_38 _ _ _ ⟨fun c => ?_, fun _ => ⟨v8 p8, ?_⟩⟩
        · have := (nI_ltI (a := 200) (by decide) (by omega)).mp c
          omega
        rw [t8 p8, (Sk.2.2 p p8).1]
        have hx : sk.2.2.1 p < 2 ^ 31 := by have := ok1.b512 ht p; omega
        refine ⟨fun c => ?_, fun c => ?_⟩
        · have hb := (tb_and hx (by omega)).mp c
          rw [if_neg (by rw [hb]; decide)] at e
          refine s_passDawn stO_17 twO_1 (by decide) (by decide) (c3.1.fr fk (by omega)) ht hn Sk ok1 (fun M' f' S' => ?_)
          rw [nI_1]
          exact ih (k + 1) M' (dawnS t sk) (by omega) (fk.tr f') S' (dawnS_ok ht ok1 (by omega)) (by show sk.1 + 1 + m ≤ _; omega) e
        · have hb : (sk.2.2.1 p).testBit q = true := by
            cases hb : (sk.2.2.1 p).testBit q with
            | true => rfl
            | false => exact absurd ((tb_and hx (by omega)).mpr hb) c
          rw [if_pos hb] at e
          exact ref Mk fk _ e
    exact loop 201 0 M1 s rfl f1 s1 hs.1 (by omega) rfl
  · exact eX11_first _ _ (bX11_first_0 _ _ (r_isPerson d3.1 ht (fun _ _ _ => b1 (r_isLayer d3.1 ht (fun j2 hj2 e3 => absurd ⟨j2, hj2, e3⟩ hn) (fun _ => b0 (bX11_first_16 ⟨rfl, hI2⟩)))) (fun hn2 => absurd ⟨p, hp, e⟩ hn2)))
  · exact eX11_first _ _ (bX11_first_0 _ _ (r_isPerson d3.1 ht (fun k2 hk2 e2 => absurd ⟨k2, hk2, e2⟩ hn) (fun _ => b0 (bX11_first_16 ⟨rfl, hI2⟩))))
theorem op_together (hI : IV M) (x : Int32) : Cl κ mX10_together [.ref 0, .int x] M (fun r M1 => Cl κ mX11_together [.ref 119, .int x] M1 (fun r' M2 => r = r' ∧ IV M2)) := by
  have hI2 := hI
  obtain ⟨t, s, u, f, a, ht, hs, hu, ho, c1, c2, c3, d1, d2, d3⟩ := hI
  have hP := ht.2.1
  have h9 := ht.n9
  have hd9 := hs.2
  have p2 := p2le (n := t.2.2.1) (by omega)
  refine eX10_together _ (bX10_together_0 _ (s_hasAll twO_1 c3.1 ht (fun w hw e => b1 (s_isThere twO_1 c3.1 ht (fun hn => b1 ?_) (fun hn => b0 ?_))) (fun hn => b0 ?_)))
  · subst e
    refine s_copyFrom stO_17 stO_13 c1 (by omega) (fun M1 f1 s1 => ?_)
    have ref : ∀ Mx, fr 17 21 M Mx → ∀ r, r = fsU (fun z => decide (andL z.2.2.1 w 511 8 ≠ 0)) (dawnS t) 201 0 s → Cl κ mX11_together [.ref 119, .int (nI w)] Mx (fun r' M2 => r = r' ∧ IV M2) := by
      intro Mx fx r hr
      have d1' := d1.fr fx (by omega)
      have d3' : RO _ t a := d3.fr fx (by decide)
      refine eX11_together _ (bX11_together_0 _ (r_areThere d3'.1 ht (fun _ _ _ => b1 (r_isTown d3'.1 ht (fun _ => b1 ?_) (fun e => by omega))) (fun hn => absurd ⟨w, hw, rfl⟩ hn)))
      refine r_asides d1' (fun M2 f2 r2 => ?_)
      have fin : ∀ Mk k v, (∀ c, c ≠ 122 → c ≠ 127 → Mk c = Mx c) → Rv Mk 127 0 s → k ≤ 201 → (k = 201 → v = -1) → (k < 201 → v = nI k) → v = r → G κ mX11_together 53 [.ref 119, .null, .int (nI k)] [] Mk (fun r' M2 => r = r' ∧ IV M2) := by
        intro Mk k v hk1 hk2 hk3 hk4 hk5 hv
        refine bX11_together_53 _ (r_backs hk2 (fun M4 f4 r4 => ?_))
        have iv : IV M4 := IV.tried ht hs hu ho c1 c2 c3 d2 d3 fx (fun c h1 h2 => by rw [f4 c (by omega), hk1 c h1 h2]) r4
        refine ⟨fun c => bX11_together_69 _ ⟨?_, iv⟩, fun c => bX11_together_69 _ ⟨?_, iv⟩⟩
        · have := (nI_leI (a := 201) (by decide) (by omega)).mp c
          rw [← hv, hk4 (by omega)]
        · have : ¬ 201 ≤ k := fun e => c (nI_le (a := 201) e (by omega))
          rw [← hv, hk5 (by omega)]
      have loop : ∀ m k Mk sk, k + m = 201 → (∀ c, c ≠ 122 → c ≠ 127 → Mk c = Mx c) → Rv Mk 122 0 sk → Rv Mk 127 0 s → stOk t sk → sk.1 + m ≤ 1000000 → fsU (fun z => decide (andL z.2.2.1 w 511 8 ≠ 0)) (dawnS t) m k sk = r → G κ mX11_together 27 [.ref 119, .int (nI w), .int (nI k)] [] Mk (fun r' M2 => r = r' ∧ IV M2) := by
        intro m
        induction m with
        | zero =>
          intro k Mk sk hkm hk1 hr1 hr2 ok1 dd e
          have : k = 201 := by omega
          subst this
          exact bX11_together_27 _ _ ⟨fun _ => fin Mk 201 (-1) hk1 hr2 (Nat.le_refl _) (fun _ => rfl) (fun h => absurd h (Nat.lt_irrefl _)) e, fun c => absurd (by decide) c⟩
        | succ m ih =>
          intro k Mk sk hkm hk1 hr1 hr2 ok1 dd e
          rw [fsU_s] at e
          have tk : TwR Mk t := by
            unfold TwR; rw [hk1 119 (by decide) (by decide), hk1 120 (by decide) (by decide), hk1 121 (by decide) (by decide)]; exact d3'.1
          have hq := andL_eq ht hn ok1 hw
          have hl : andL sk.2.2.1 w (2 ^ t.1 - 1) t.2.2.1 < 2 ^ 31 := by
            have h1 := andL_le sk.2.2.1 w (2 ^ t.1 - 1) t.2.2.1
            have h2 := p2le h9
            omega
          refine bX11_together_27 _ _ ⟨fun c => ?_, fun _ => r_common (by omega) tk ht hr1 ⟨fun c => ?_, fun c => ?_⟩⟩
          · have := (nI_leI (a := 201) (by decide) (by omega)).mp c
            omega
          · have hz := hq.mp (nI_inj (b := 0) hl (by decide) c)
            rw [if_neg (by simp [hz])] at e
            refine r_goesOn (n := 1) (by decide) tk ht hr1 ok1 (by omega) (fun M' f' r' => ?_)
            rw [nI_1]
            exact ih (k + 1) M' (dawnS t sk) (by omega) (fun c h1 h2 => by rw [f' c (by omega), hk1 c h1 h2]) r' (hr2.fr f' (by omega)) (dawnS_ok ht ok1 (by omega)) (by show sk.1 + 1 + m ≤ _; omega) e
          · have hz : andL sk.2.2.1 w 511 8 ≠ 0 := fun z => c (by rw [hq.mpr z]; rfl)
            rw [if_pos (by simp [hz])] at e
            exact fin Mk k (nI k) hk1 hr2 (by omega) (fun h => by omega) (fun _ => rfl) e
      exact loop 201 0 M2 s rfl (fun c h1 h2 => f2 c (by omega)) (d1'.fr f2 (by omega)) r2 hs.1 (by omega) hr.symm
    have loop : ∀ m k Mk sk, k + m = 201 → fr 17 21 M Mk → Sv Mk 17 sk → stOk t sk → sk.1 + m ≤ 1000000 → fsU (fun z => decide (andL z.2.2.1 w 511 8 ≠ 0)) (dawnS t) m k sk = fsU (fun z => decide (andL z.2.2.1 w 511 8 ≠ 0)) (dawnS t) 201 0 s → G κ mX10_together 40 [.ref 0, .int (nI w), .int (nI k)] [] Mk (fun r M1 => Cl κ mX11_together [.ref 119, .int (nI w)] M1 (fun r' M2 => r = r' ∧ IV M2)) := by
      intro m
      induction m with
      | zero =>
        intro k Mk sk hkm fk Sk ok1 dd e
        have : k = 201 := by omega
        subst this
        exact bX10_together_40 _ _ ⟨fun _ => ref Mk fk _ e, fun c => absurd (by decide) c⟩
      | succ m ih =>
        intro k Mk sk hkm fk Sk ok1 dd e
        rw [fsU_s] at e
        refine bX10_together_40 _ _ ⟨fun c => ?_, fun _ => s_areTogether stO_17 Sk (ok1.b512 ht) (by omega) (fun hz => b1 ?_) (fun hz => b0 ?_)⟩
        · have := (nI_ltI (a := 200) (by decide) (by omega)).mp c
          omega
        · rw [if_pos (by simp [hz])] at e
          exact ref Mk fk _ e
        · rw [if_neg (by simp [hz])] at e
          refine s_passDawn stO_17 twO_1 (by decide) (by decide) (c3.1.fr fk (by omega)) ht hn Sk ok1 (fun M' f' S' => ?_)
          rw [nI_1]
          exact ih (k + 1) M' (dawnS t sk) (by omega) (fk.tr f') S' (dawnS_ok ht ok1 (by omega)) (by show sk.1 + 1 + m ≤ _; omega) e
    exact loop 201 0 M1 s rfl f1 s1 hs.1 (by omega) rfl
  · exact eX11_together _ (bX11_together_0 _ (r_areThere d3.1 ht (fun _ _ _ => b1 (r_isTown d3.1 ht (fun e => by omega) (fun _ => b0 ⟨rfl, hI2⟩))) (fun hn2 => absurd ⟨w, hw, e⟩ hn2)))
  · exact eX11_together _ (bX11_together_0 _ (r_areThere d3.1 ht (fun k2 hk2 e2 => absurd ⟨k2, hk2, e2⟩ hn) (fun _ => b0 ⟨rfl, hI2⟩)))
end Ops7
