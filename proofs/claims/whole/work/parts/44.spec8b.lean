/-! THE CLASS: what changes a State; Past, Images, Book -/
section Spec8b
variable {κ : gK} {M : MM} {Q : Int32 → MM → Prop} {o : Nat} {t : TW} {s : ST}
theorem cp_c (M : MM) {c d n e : Nat} (h : e ≠ d) : cp M c d n e = M e := sC_n M _ h
theorem cp_l (M : MM) (c d : Nat) {n j : Nat} (h : j < n) : cp M c d n d j = M c j := by rw [cp_e]; simp [h]
theorem s_copyFrom {o1 : Nat} (ho : stO o) (ho1 : stO o1) (hS : Sv M o1 s) (hsep : o + 4 ≤ o1 ∨ o1 + 4 ≤ o) (h : ∀ M', fr o (o + 4) M M' → Sv M' o s → Q 0 M') : Cl κ mX8_copyFrom [.ref o, .ref o1] M Q := by
  refine eX8_copyFrom o o1 (bX8_copyFrom_0 o o1 ho ho1 ?_)
  rintro M1 e1 M2 e2 M3 e3 M4 e4 M5 e5
  refine h M5 ?_ ?_
  · rw [e5, e4, e3, e2, e1]
    exact ((((fr.rf.cp (by omega) (by omega)).cp (by omega) (by omega)).cp (by omega) (by omega)).pt (by omega) (by omega)).pt (by omega) (by omega)
  · refine ⟨?_, ?_, fun p hp => ⟨?_, ?_, ?_⟩⟩
    · rw [e5, pt_k _ _ (by decide), e4, pt_s, e3, cp_c _ (by omega), e2, cp_c _ (by omega), e1, cp_c _ (by omega)]; exact hS.1
    · rw [e5, pt_s, e4, pt_c _ _ (by omega), e3, cp_c _ (by omega), e2, cp_c _ (by omega), e1, cp_c _ (by omega)]; exact hS.2.1
    · rw [e5, pt_c _ _ (by omega), e4, pt_c _ _ (by omega), e3, cp_c _ (by omega), e2, cp_c _ (by omega), e1, cp_l _ _ _ hp]; exact (hS.2.2 p hp).1
    · rw [e5, pt_c _ _ (by omega), e4, pt_c _ _ (by omega), e3, cp_c _ (by omega), e2, cp_l _ _ _ hp, e1, cp_c _ (by omega)]; exact (hS.2.2 p hp).2.1
    · rw [e5, pt_c _ _ (by omega), e4, pt_c _ _ (by omega), e3, cp_l _ _ _ hp, e2, cp_c _ (by omega), e1, cp_c _ (by omega)]; exact (hS.2.2 p hp).2.2
def hearF (t : TW) (light : Nat) (s : ST) : Nat := bits (hearB t light s) 8
theorem stOk.b512 (ht : twOk t) (h : stOk t s) : ∀ p, s.2.2.1 p < 512 := fun p => by
  have h1 := h.2.2.1 p
  have h9 : t.1 ≤ 9 := by rcases ht.1 with a | a <;> omega
  have := p2le h9
  omega
theorem s_hearCrow {o1 light : Nat} (ho : stO o) (ho1 : twO o1) (h13 : 13 ≤ o) (h6 : o1 ≤ 6) (hT : Tw M o1 t) (ht : twOk t) (hS : Sv M o s) (hs : stOk t s) (hl : light < 2 ^ 31) (h : ∀ M', fr o (o + 4) M M' → Sv M' o (crowS t light 8 s) → Q (nI (hearF t light s)) M') : Cl κ mX8_hearCrow [.ref o, .ref o1, .int (nI light)] M Q := by
  refine eX8_hearCrow o o1 _ (bX8_hearCrow_0 o o1 ho ho1 _ ?_)
  refine up_ind 8 (fun k => ∀ Mk, fr o (o + 4) M Mk → Sv Mk o (crowS t light k s) → G κ mX8_hearCrow 5 [.ref o, .ref o1, .int (nI light), .int (nI (bits (hearB t light s) k)), .int (nI k)] [] Mk Q) ?_ ?_ 0 (by decide) M fr.rf ?_
  · exact fun Mk hf hk => bX8_hearCrow_5 o o1 ho ho1 _ _ _ ⟨fun _ => h Mk hf hk, fun c => absurd (by decide) c⟩
  · intro k hk ih Mk hf hSk
    have hTk : Tw Mk o1 t := hT.fr hf (by omega)
    have he := (hSk.2.2 k hk).2.1
    have hla := (hSk.2.2 k hk).1
    have hhe := (hSk.2.2 k hk).2.2
    have hne : ∀ x : Nat, crowS t light (k + 1) s = crowS t light k s ∨ hearB t light s k = true := by
      intro _
      cases hb : hearB t light s k with
      | true => exact Or.inr rfl
      | false =>
        refine Or.inl ?_
        unfold crowS
        have e : ∀ p, (p < k + 1 ∧ hearB t light s p = true) ↔ (p < k ∧ hearB t light s p = true) := by
          intro p
          constructor
          · rintro ⟨a, b⟩
            refine ⟨?_, b⟩
            rcases Nat.lt_or_ge p k with c | c
            · exact c
            · have : p = k := by omega
              rw [this, hb] at b; cases b
          · rintro ⟨a, b⟩; exact ⟨by omega, b⟩
        simp only [e]
    have skip : hearB t light s k = false → G κ mX8_hearCrow 89 [.ref o, .ref o1, .int (nI light), .int (nI (bits (hearB t light s) k)), .int (nI k)] [] Mk Q := by
      intro hb
      refine bX8_hearCrow_89 o o1 ho ho1 _ _ _ ?_
      rw [nI_1]
      have e1 : crowS t light (k + 1) s = crowS t light k s := by
        rcases hne 0 with e | e
        · exact e
        · rw [hb] at e; cases e
      have e2 : bits (hearB t light s) (k + 1) = bits (hearB t light s) k := by
        show (if hearB t light s k = true then _ else _) = _
        rw [if_neg (by rw [hb]; decide)]
      have := ih Mk hf (by rw [e1]; exact hSk)
      rw [e2] at this
      exact this
    refine bX8_hearCrow_5 o o1 ho ho1 _ _ _ ⟨fun c => absurd c (c8 hk), fun _ => ?_⟩
    refine s_hasPerson ho1 hTk ht (fun p hp e => b1 ⟨v8 hk, ?_⟩) (fun hn => b0 (skip ?_))
    · have epk : p = k := (nI_inj (by omega) (by have := ht.2.1; omega) e).symm
      subst epk
      rw [t8 hk, he, hTk.2.2.2.2.1 p hp, hla, hSk.1]
      have hea : (crowS t light p s).2.2.2.1 p = s.2.2.2.1 p := rfl
      have hla2 : (crowS t light p s).2.2.1 p = s.2.2.1 p := by show (if _ then _ else _) = _; rw [if_neg (by omega)]
      have hhe2 : (crowS t light p s).2.2.2.2 p = s.2.2.2.2 p := by show (if _ then _ else _) = _; rw [if_neg (by omega)]
      rw [hea, hla2]
      refine ⟨fun c => skip ?_, fun c => ?_⟩
      · have := (nI_ltI (by have := hs.2.2.2.2.2.1 p; omega) hl).mp c
        have h9 : ¬ light ≤ s.2.2.2.1 p := by omega
        simp [hearB, h9]
      · have hge : light ≤ s.2.2.2.1 p := Nat.le_of_not_lt fun e => c (nI_lt e hl)
        have hb : hearB t light s p = true := by simp [hearB, hge, hp]
        have hn2 : 2 ≤ t.1 := by rcases ht.1 with a | a <;> omega
        refine s_behindCrow ho1 hTk ht (ht.2.2.2.1 p hp) (hs.2.2.1 p) (by have := hs.1; show s.1 < _; omega) (Or.inl hn2) ?_
        rintro M3 e3 M4 e4 v5 e5
        refine bX8_hearCrow_89 o o1 ho ho1 _ _ _ ?_
        have hin : (M3 (o + 3) p) = nI (s.2.2.2.2 p) := by rw [e3, pt_c _ _ (by omega), hhe, hhe2]
        rw [hin, show (1 : Int32) = nI 1 from rfl, nI_add, show (999999 : Int32) = nI 999999 from rfl, jmin_nI (by have := hs.2.2.2.2.2.2 p; omega) (by decide)] at e4
        rw [nI_1, e5, one_shl (by omega), nI_or]
        have e2 : bits (hearB t light s) (p + 1) = bits (hearB t light s) p ||| 2 ^ p := by
          show (if hearB t light s p = true then _ else _) = _
          rw [if_pos hb]
        have fin := ih M4 ?_ ?_
        · rw [e2] at fin; exact fin
        · rw [e4, e3]; exact (hf.pt (by omega) (by omega)).pt (by omega) (by omega)
        · refine ⟨?_, ?_, fun q hq => ⟨?_, ?_, ?_⟩⟩
          · rw [e4, pt_c _ _ (by omega), e3, pt_c _ _ (by omega)]; exact hSk.1
          · rw [e4, pt_c _ _ (by omega), e3, pt_c _ _ (by omega)]; exact hSk.2.1
          · rw [e4, pt_c _ _ (by omega), e3]
            show _ = nI (if _ then _ else _)
            by_cases eq : q = p
            · subst eq
              rw [pt_s, if_pos ⟨by omega, hb⟩]; rfl
            · rw [pt_k _ _ eq, (hSk.2.2 q hq).1]
              show nI (if _ then _ else _) = _
              have ee : (q < p + 1 ∧ hearB t light s q = true) ↔ (q < p ∧ hearB t light s q = true) := by
                constructor
                · rintro ⟨a, b⟩; exact ⟨by omega, b⟩
                · rintro ⟨a, b⟩; exact ⟨by omega, b⟩
              simp only [ee]
          · rw [e4, pt_c _ _ (by omega), e3, pt_c _ _ (by omega)]; exact (hSk.2.2 q hq).2.1
          · rw [e4]
            show _ = nI (if _ then _ else _)
            by_cases eq : q = p
            · subst eq
              rw [pt_s, if_pos ⟨by omega, hb⟩]
            · rw [pt_k _ _ eq, e3, pt_c _ _ (by omega), (hSk.2.2 q hq).2.2]
              show nI (if _ then _ else _) = _
              have ee : (q < p + 1 ∧ hearB t light s q = true) ↔ (q < p ∧ hearB t light s q = true) := by
                constructor
                · rintro ⟨a, b⟩; exact ⟨by omega, b⟩
                · rintro ⟨a, b⟩; exact ⟨by omega, b⟩
              simp only [ee]
    · have : ¬ k < t.2.2.1 := fun e => hn ⟨k, e, rfl⟩
      simp [hearB, this]
  · have e0 : crowS t light 0 s = s := by
      unfold crowS
      simp
    rw [e0]; exact hS
theorem s_passDawn {o1 : Nat} (ho : stO o) (ho1 : twO o1) (h13 : 13 ≤ o) (h6 : o1 ≤ 6) (hT : Tw M o1 t) (ht : twOk t) (h2 : 2 ≤ t.1) (hS : Sv M o s) (hs : stOk t s) (h : ∀ M', fr o (o + 4) M M' → Sv M' o (dawnS t s) → Q 0 M') : Cl κ mX8_passDawn [.ref o, .ref o1] M Q := by
  refine eX8_passDawn o o1 (bX8_passDawn_0 o o1 ho ho1 ?_)
  rw [hS.1]
  have hd := hs.1
  have hlf : lightF t s.1 < 2 ^ 31 := by
    unfold lightF
    split
    · decide
    · have := (ht.2.2.2.2 (s.1 % t.2.2.2.1) (Nat.mod_lt _ (by omega))).2; omega
  refine s_lightOf ho1 hT ht (by omega) (fun _ => ?_) (fun e => by omega)
  refine s_hearCrow ho ho1 h13 h6 hT ht hS hs hlf (fun M' hf hS' => ?_)
  rintro M3 e3
  refine h M3 ?_ ?_
  · rw [e3]; exact hf.pt (by omega) (by omega)
  · refine ⟨?_, ?_, fun q hq => ⟨?_, ?_, ?_⟩⟩
    · rw [e3, pt_s, hS'.1, nI_1]; rfl
    · rw [e3, pt_k _ _ (by decide)]; exact hS'.2.1
    · rw [e3, pt_c _ _ (by omega)]; exact (hS'.2.2 q hq).1
    · rw [e3, pt_c _ _ (by omega)]; exact (hS'.2.2 q hq).2.1
    · rw [e3, pt_c _ _ (by omega)]; exact (hS'.2.2 q hq).2.2
/-! what can be undone: the latest first -/
def consF (s : ST) (f : Nat → ST) : Nat → ST := fun j => match j with
  | 0 => s
  | j + 1 => f j
def PaC (M : MM) (u : Nat) (f : Nat → ST) : Prop := u ≤ 16 ∧ ∃ x, x < 16 ∧ M 21 1 = nI x ∧ M 21 2 = nI u ∧ ∀ j, j < u → Sv M (23 + 4 * ((x + 15 - j) % 16)) (f j)
theorem PaC.fr {M M' : MM} {u a b : Nat} {f : Nat → ST} (h : PaC M u f) (hf : fr a b M M') (hs : b ≤ 21 ∨ 87 ≤ a) : PaC M' u f := by
  obtain ⟨h1, x, h2, h3, h4, h5⟩ := h
  refine ⟨h1, x, h2, by rw [hf 21 (by omega)]; exact h3, by rw [hf 21 (by omega)]; exact h4, fun j hj => (h5 j hj).fr hf ?_⟩
  have := Nat.mod_lt (x + 15 - j) (show 0 < 16 by decide)
  omega
theorem s_remember {o1 u : Nat} {f : Nat → ST} (ho1 : stO o1) (hb : o1 + 4 ≤ 21) (hS : Sv M o1 s) (hP : PaC M u f) (h : ∀ M', fr 21 87 M M' → PaC M' (min (u + 1) 16) (consF s f) → Q 0 M') : Cl κ mX4_remember [.ref 21, .ref o1] M Q := by
  obtain ⟨hu, x, hx, h1, h2, h3⟩ := hP
  have hv : vp_in (M 21 1) 16 := by rw [h1]; exact vp_in_nI hx (by decide)
  have ht : (M 21 1).toNatClampNeg = x := by rw [h1]; exact tNI (by omega)
  refine eX4_remember o1 (bX4_remember_0 o1 ho1 ⟨hv, ?_⟩)
  rw [ht]
  refine s_copyFrom (stO_pastN x hx) ho1 hS (by omega) (fun M1 hf hS1 => ?_)
  have e21 : M1 21 = M 21 := hf 21 (by omega)
  rw [e21, h1, nI_1]
  have go : ∀ y, y = (x + 1) % 16 → G κ mX4_remember 35 [.ref 21, .null] [.int (nI y), .ref 21] M1 Q := by
    rintro y rfl
    refine bX4_remember_35 o1 ho1 _ ?_
    rintro M2 e2 M3 e3
    have hc : M2 21 2 = nI u := by rw [e2, pt_k _ _ (by decide), e21]; exact h2
    rw [hc, nI_1, show (16 : Int32) = nI 16 from rfl, jmin_nI (by omega) (by decide)] at e3
    have hfr : fr 21 87 M M3 := by
      rw [e3, e2]
      exact ((hf.up (by omega) (by omega)).pt (by omega) (by omega)).pt (by omega) (by omega)
    refine h M3 hfr ⟨Nat.min_le_right _ _, (x + 1) % 16, Nat.mod_lt _ (by decide), ?_, ?_, fun j hj => ?_⟩
    · rw [e3, pt_k _ _ (by decide), e2, pt_s]
    · rw [e3, pt_s]
    · have k3 : ∀ c, c ≠ 21 → M3 c = M1 c := fun c hc => by rw [e3, pt_c _ _ hc, e2, pt_c _ _ hc]
      have tr : ∀ d w, Sv M1 d w → 22 ≤ d → Sv M3 d w := fun d w hd hge => hd.kept (k3 _ (by omega)) (k3 _ (by omega)) (k3 _ (by omega)) (k3 _ (by omega))
      match j, hj with
      | 0, _ =>
        have e : ((x + 1) % 16 + 15 - 0) % 16 = x := by omega
        rw [e]
        exact tr _ _ hS1 (by omega)
      | j + 1, hj =>
        have hj2 : j < u ∧ j < 15 := by omega
        have e : ((x + 1) % 16 + 15 - (j + 1)) % 16 = (x + 15 - j) % 16 := by omega
        rw [e]
        have hlt := Nat.mod_lt (x + 15 - j) (show 0 < 16 by decide)
        have hne : (x + 15 - j) % 16 ≠ x := by omega
        exact tr _ _ ((h3 j hj2.1).fr hf (by omega)) (by omega)
  refine ⟨fun c => ?_, fun c => ?_⟩
  · have := (nI_leI (a := 16) (by decide) (by omega)).mp c
    exact go 0 (by omega)
  · have : ¬ 16 ≤ x + 1 := fun e => c (nI_le e (by omega))
    exact go (x + 1) (by omega)
theorem s_restore {o1 u : Nat} {f : Nat → ST} (ho1 : stO o1) (hb : o1 + 4 ≤ 21) (hu0 : 0 < u) (hP : PaC M u f) (h : ∀ M', (∀ c, c < o1 ∨ (o1 + 4 ≤ c ∧ c ≠ 21) → M' c = M c) → Sv M' o1 (f 0) → PaC M' (u - 1) (fun j => f (j + 1)) → Q 0 M') : Cl κ mX4_restore [.ref 21, .ref o1] M Q := by
  obtain ⟨hu, x, hx, h1, h2, h3⟩ := hP
  have go : ∀ y, y = (x + 15) % 16 → G κ mX4_restore 27 [.ref 21, .ref o1] [.int (nI y), .ref 21] M Q := by
    rintro y rfl
    have hy := Nat.mod_lt (x + 15) (show 0 < 16 by decide)
    refine bX4_restore_27 o1 ho1 _ ?_
    rintro M1 e1 M2 e2
    have k2 : ∀ c, c ≠ 21 → M2 c = M c := fun c hc => by rw [e2, pt_c _ _ hc, e1, pt_c _ _ hc]
    have hn : M2 21 1 = nI ((x + 15) % 16) := by rw [e2, pt_k _ _ (by decide), e1, pt_s]
    have hcnt : M2 21 2 = nI (u - 1) := by
      rw [e2, pt_s, e1, pt_k _ _ (by decide), h2, show (1 : Int32) = nI 1 from rfl, pk_sub hu0]
    rw [hn, tNI (by omega)]
    refine ⟨vp_in_nI hy (by decide), ?_⟩
    have hs0 := h3 0 hu0
    rw [Nat.sub_zero] at hs0
    refine s_copyFrom ho1 (stO_pastN _ hy) (hs0.kept (k2 _ (by omega)) (k2 _ (by omega)) (k2 _ (by omega)) (k2 _ (by omega))) (by omega) (fun M3 hf hS3 => ?_)
    refine h M3 (fun c hc => ?_) hS3 ⟨by omega, (x + 15) % 16, hy, by rw [hf 21 (by omega)]; exact hn, by rw [hf 21 (by omega)]; exact hcnt, fun j hj => ?_⟩
    · rw [hf c (by omega), k2 c (by omega)]
    · have e : ((x + 15) % 16 + 15 - j) % 16 = (x + 15 - (j + 1)) % 16 := by omega
      rw [e]
      have hlt := Nat.mod_lt (x + 15 - (j + 1)) (show 0 < 16 by decide)
      exact ((h3 (j + 1) (by omega)).kept (k2 _ (by omega)) (k2 _ (by omega)) (k2 _ (by omega)) (k2 _ (by omega))).fr hf (by omega)
  refine eX4_restore o1 (bX4_restore_0 o1 ho1 ⟨fun c => ?_, fun _ => ⟨fun c => ?_, fun c => ?_⟩⟩)
  · rw [h2] at c
    exact absurd (nI_inj (b := 0) (by omega) (by decide) c) (by omega)
  · rw [h1] at c
    have := (nI_leI (b := 0) (by omega) (by decide)).mp c
    exact go 15 (by omega)
  · rw [h1] at c ⊢
    have : ¬ x ≤ 0 := fun e => c (nI_le e (by decide))
    rw [show (1 : Int32) = nI 1 from rfl, pk_sub (by omega)]
    exact go (x - 1) (by omega)
theorem s_forget (h : ∀ M', fr 21 22 M M' → (∀ f, PaC M' 0 f) → Q 0 M') : Cl κ mX4_forget [.ref 21] M Q := by
  refine eX4_forget (bX4_forget_0 ?_)
  rintro M1 e1 M2 e2
  refine h M2 ?_ (fun f => ⟨by decide, 0, by decide, ?_, ?_, fun j hj => absurd hj (by omega)⟩)
  · rw [e2, e1]; exact (fr.rf.pt (by omega) (by omega)).pt (by omega) (by omega)
  · rw [e2, pt_k _ _ (by decide), e1, pt_s]; rfl
  · rw [e2, pt_s]; rfl
end Spec8b
