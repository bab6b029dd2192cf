section Ops9
variable {κ : gK} {M : MM} {t : TW} {s : ST}
def upB (f : Nat → Bool) (i : Nat) (v : Bool) : Nat → Bool := fun q => if q = i then v else f q
def upS (f : Nat → ST) (i : Nat) (v : ST) : Nat → ST := fun q => if q = i then v else f q
theorem op_keep (hI : IV M) (x : Int32) : Cl κ mX10_keep [.ref 0, .int x] M (fun r M1 => Cl κ mX11_keep [.ref 119, .int x] M1 (fun r' M2 => r = r' ∧ IV M2)) := by
  have hI2 := hI
  obtain ⟨t, s, u, f, a, ht, hs, hu, ho, c1, c2, c3, d1, d2, d3⟩ := hI
  have no : (¬ ∃ k, 0 ≤ k ∧ k ≤ 1 ∧ x = nI k) → G κ mX10_keep 9 [.null, .null] [] M (fun r M1 => Cl κ mX11_keep [.ref 119, .int x] M1 (fun r' M2 => r = r' ∧ IV M2)) := fun hn =>
    bX10_keep_9 (eX11_keep _ (bX11_keep_0 _ (r_inN 0 1 rfl rfl (by decide) (fun k k1 k2 e => absurd ⟨k, k1, k2, e⟩ hn) (fun _ => b0 ⟨rfl, hI2⟩))))
  refine eX10_keep _ (bX10_keep_0 _ ⟨fun c => no (rg_lo (a := 0) (by decide) (by decide) c), fun c => ⟨fun c' => ?_, fun c' => no ?_⟩⟩)
  · have c'' : x ≤ nI 1 := by
      rw [Int32.lt_iff_toInt_lt] at c'
      rw [Int32.le_iff_toInt_le, nI_toInt (by decide)]
      have : (2 : Int32).toInt = 2 := rfl
      omega
    obtain ⟨i, i1, i2, rfl⟩ := rg_in (a := 0) (b := 1) (by decide) (by decide) c c''
    have hi : i < 2 := by omega
    have h13 : M 0 13 = nI a.2.2.2.1 := c3.2.2.2.2.1
    rw [h13]
    refine eX2_take 13 _ _ (bX2_take_0 13 stO_13 _ _ ⟨vp_in_nI hi (by decide), ?_⟩)
    rw [tNI (by omega)]
    refine s_copyFrom (stO_imgN i hi) stO_13 c1 (by omega) (fun M1 f1 s1 => ?_)
    rintro M2 rfl M3 e3
    refine s_forget (fun M4 f4 p4 => ?_)
    have g3 : ∀ c, c < 87 ∨ 99 ≤ c → M3 c = M c := fun c hc => by rw [e3, pt_c _ _ (by omega), pt_c _ _ (by omega), f1 c (by omega)]
    have g4 : ∀ c, c ≠ 21 → M4 c = M3 c := fun c hc => f4 c (by omega)
    have d1' : Rv M4 122 0 s := d1.blk (fun j _ => by rw [g4 122 (by decide), g3 122 (by omega)])
    have d3' : RO M4 t a := d3.kept (fun c hc => by unfold cR at hc; rw [g4 c (by omega), g3 c (by omega)]) (fun k _ => by rw [g4 119 (by decide), g3 119 (by omega)])
    have s20 : M4 119 20 = nI a.2.2.2.1 := d3'.2.2.2.2.1
    refine eX11_keep _ (bX11_keep_0 _ (r_inN 0 1 rfl rfl (by decide) (fun _ _ _ _ => b1 ?_) (fun hn => absurd ⟨i, i1, i2, rfl⟩ hn)))
    refine up_ind 26 (fun k => ∀ Mk, fr 133 134 M4 Mk → (∀ j, j < k → Mk 133 (27 * i + j) = M4 122 j) → (∀ j, (j < 27 * i ∨ 27 * i + 27 ≤ j) → Mk 133 j = M4 133 j) → G κ mX11_keep 15 [.ref 119, .int (nI i), .int (nI k)] [] Mk (fun r' M2 => 1 = r' ∧ IV M2)) ?_ ?_ 0 (by decide) M4 fr.rf (fun j hj => absurd hj (by omega)) (fun j _ => rfl)
    · intro Mk fk h1 h2
      refine bX11_keep_15 _ _ ⟨fun _ => ?_, fun c => absurd (by decide) c⟩
      rw [show (27 : Int32) = nI 27 from rfl, pk_mul, show (26 : Int32) = nI 26 from rfl, nI_add, tNI (by omega), tNI (by omega), fk 119 (by omega), s20]
      refine ⟨vp_in_nI (by omega) (by decide), ?_⟩
      rintro M5 rfl
      refine ⟨vp_in_nI hi (by decide), ?_⟩
      rintro M6 rfl M7 e7
      have bc : ∀ c, c ≠ 119 → c ≠ 133 → c ≠ 134 → M7 c = M4 c := fun c q1 q2 q3 => by rw [e7, pt_c _ _ q1, pt_c _ _ q3, pt_c _ _ q2, fk c (by omega)]
      have bk : ∀ k, k ≠ 19 → M7 119 k = M4 119 k := fun k q => by rw [e7, pt_k _ _ q, pt_c _ _ (by decide), pt_c _ _ (by decide), fk 119 (by omega)]
      have cc : ∀ c, c < 119 → M7 c = M4 c := fun c hc => bc c (by omega) (by omega) (by omega)
      have im : ∀ j q, j < 2 → (upB a.1.1 i true) j = q → ((j = i ∧ q = true) ∨ (j ≠ i ∧ a.1.1 j = q)) := by
        intro j q hj e
        by_cases h : j = i
        · left; refine ⟨h, ?_⟩; rw [← e]; exact if_pos h
        · right; refine ⟨h, ?_⟩; rw [← e]; exact (if_neg h).symm
      refine ⟨rfl, t, s, 0, f, ((upB a.1.1 i true, upS a.1.2.1 i s, upN a.1.2.2 i a.2.2.2.1), a.2), ht, hs, fun j hj => absurd hj (Nat.not_lt_zero j), ⟨fun j hj hb => ?_, ho.2⟩, ?_, ?_, CO_im c3 (fun c hc hn => ?_) (fun j hj => ⟨?_, fun hb => ?_⟩), ?_, ⟨by decide, ?_, fun j hj => absurd hj (Nat.not_lt_zero j)⟩, RO_im d3' (fun c hc hn => ?_) (fun q hq hn => ?_) (fun j hj => ⟨?_, fun hb => ?_⟩)⟩
      · rcases im j true hj hb with ⟨e, -⟩ | ⟨e, e2⟩
        · subst e
          show okS t (upS _ _ _ j) ∧ upN _ _ _ j < _
          rw [upN_s, show upS a.1.2.1 j s j = s from if_pos rfl]; exact ⟨hs, ho.2.2.1⟩
        · show okS t (upS _ _ _ j) ∧ upN _ _ _ j < _
          rw [upN_lt e, show upS a.1.2.1 i s j = a.1.2.1 j from if_neg e]; exact ho.1 j hj e2
      · refine c1.kept ?_ ?_ ?_ ?_ <;> rw [cc _ (by omega), g4 _ (by omega), g3 _ (by omega)]
      · obtain ⟨q1, x1, q2, q3, q4, q5⟩ := p4 f
        exact ⟨q1, x1, q2, by rw [cc 21 (by omega)]; exact q3, by rw [cc 21 (by omega)]; exact q4, fun j hj => absurd hj (Nat.not_lt_zero j)⟩
      · unfold cC at hc; rw [cc c (by omega), g4 c (by omega), g3 c (by omega)]
      · rw [cc 90 (by omega), g4 90 (by omega), e3]
        show _ = nI (Bool.toNat (upB a.1.1 i true j))
        by_cases e : j = i
        · rw [e, pt_s, show upB a.1.1 i true i = true from if_pos rfl]; rfl
        · rw [pt_k _ _ e, pt_c _ _ (by decide), f1 90 (by omega), show upB a.1.1 i true j = a.1.1 j from if_neg e]; exact (c3.2.1 j hj).1
      · show Sv M7 _ (upS _ _ _ j) ∧ _ = nI (upN _ _ _ j)
        rcases im j true hj hb with ⟨e, -⟩ | ⟨e, e2⟩
        · subst e
          rw [upN_s, show upS a.1.2.1 j s j = s from if_pos rfl]
          refine ⟨s1.kept ?_ ?_ ?_ ?_, ?_⟩
          · rw [cc _ (by omega), g4 _ (by omega), e3, pt_c _ _ (by omega), pt_c _ _ (by omega)]
          · rw [cc _ (by omega), g4 _ (by omega), e3, pt_c _ _ (by omega), pt_c _ _ (by omega)]
          · rw [cc _ (by omega), g4 _ (by omega), e3, pt_c _ _ (by omega), pt_c _ _ (by omega)]
          · rw [cc _ (by omega), g4 _ (by omega), e3, pt_c _ _ (by omega), pt_c _ _ (by omega)]
          · rw [cc 89 (by omega), g4 89 (by omega), e3, pt_c _ _ (by decide), pt_s]
        · rw [upN_lt e, show upS a.1.2.1 i s j = a.1.2.1 j from if_neg e]
          obtain ⟨z1, z2⟩ := (c3.2.1 j hj).2 e2
          refine ⟨z1.kept ?_ ?_ ?_ ?_, ?_⟩
          · rw [cc _ (by omega), g4 _ (by omega), e3, pt_c _ _ (by omega), pt_c _ _ (by omega), f1 _ (by omega)]
          · rw [cc _ (by omega), g4 _ (by omega), e3, pt_c _ _ (by omega), pt_c _ _ (by omega), f1 _ (by omega)]
          · rw [cc _ (by omega), g4 _ (by omega), e3, pt_c _ _ (by omega), pt_c _ _ (by omega), f1 _ (by omega)]
          · rw [cc _ (by omega), g4 _ (by omega), e3, pt_c _ _ (by omega), pt_c _ _ (by omega), f1 _ (by omega)]
          · rw [cc 89 (by omega), g4 89 (by omega), e3, pt_c _ _ (by decide), pt_k _ _ e, f1 89 (by omega)]; exact z2
      · exact d1'.blk (fun j _ => by rw [bc 122 (by decide) (by decide) (by decide)])
      · rw [e7, pt_s]; rfl
      · unfold cR at hc; exact bc c (by omega) (by omega) (by omega)
      · unfold kR at hq; exact bk q (by omega)
      · rw [e7, pt_c _ _ (by decide)]
        show _ = nI (Bool.toNat (upB a.1.1 i true j))
        by_cases e : j = i
        · rw [e, pt_s, show upB a.1.1 i true i = true from if_pos rfl]; rfl
        · rw [pt_k _ _ e, pt_c _ _ (by decide), fk 134 (by omega), show upB a.1.1 i true j = a.1.1 j from if_neg e]; exact (d3'.2.1 j hj).1
      · show Rv M7 133 _ (upS _ _ _ j) ∧ _ = nI (upN _ _ _ j)
        have e133 : ∀ w, w ≠ 27 * i + 26 → M7 133 w = Mk 133 w := fun w hw => by rw [e7, pt_c _ _ (by decide), pt_c _ _ (by decide), pt_k _ _ hw]
        rcases im j true hj hb with ⟨e, -⟩ | ⟨e, e2⟩
        · subst e
          rw [upN_s, show upS a.1.2.1 j s j = s from if_pos rfl]
          refine ⟨d1'.blk (fun w hw => ?_), ?_⟩
          · rw [e133 _ (by omega), h1 w hw, Nat.zero_add]
          · rw [e7, pt_c _ _ (by decide), pt_c _ _ (by decide), pt_s]
        · rw [upN_lt e, show upS a.1.2.1 i s j = a.1.2.1 j from if_neg e]
          obtain ⟨z1, z2⟩ := (d3'.2.1 j hj).2 e2
          refine ⟨z1.blk (fun w hw => ?_), ?_⟩
          · rw [e133 _ (by omega), h2 _ (by omega)]
          · rw [e133 _ (by omega), h2 _ (by omega)]; exact z2
    · intro k hk ih Mk fk h1 h2
      refine bX11_keep_15 _ _ ⟨fun c => absurd c (c26 hk), fun _ => ⟨v26 hk, ?_⟩⟩
      rw [show (27 : Int32) = nI 27 from rfl, pk_mul, nI_add, tNI (by omega), tNI (by omega), nI_1]
      refine ⟨vp_in_nI (by omega) (by decide), ?_⟩
      rintro M5 rfl
      refine ih _ (fk.pt (by omega) (by omega)) (fun j hj => ?_) (fun j hj => ?_)
      · by_cases e : j = k
        · subst e; rw [pt_s, fk 122 (by omega)]
        · rw [pt_k _ _ (by omega)]; exact h1 j (by omega)
      · rw [pt_k _ _ (by omega)]; exact h2 j hj
  · rintro ⟨k, k1, k2, rfl⟩
    exact c' (nI_lt (b := 2) (by omega) (by decide))
theorem op_goBack (hI : IV M) (x : Int32) : Cl κ mX10_goBack [.ref 0, .int x] M (fun r M1 => Cl κ mX11_goBack [.ref 119, .int x] M1 (fun r' M2 => r = r' ∧ IV M2)) := by
  have hI2 := hI
  obtain ⟨t, s, u, f, a, ht, hs, hu, ho, c1, c2, c3, d1, d2, d3⟩ := hI
  have no : (¬ ∃ k, 0 ≤ k ∧ k ≤ 1 ∧ x = nI k) → G κ mX10_goBack 9 [.null, .null] [] M (fun r M1 => Cl κ mX11_goBack [.ref 119, .int x] M1 (fun r' M2 => r = r' ∧ IV M2)) := fun hn =>
    bX10_goBack_9 (eX11_goBack _ (bX11_goBack_0 _ (r_inN 0 1 rfl rfl (by decide) (fun k k1 k2 e => absurd ⟨k, k1, k2, e⟩ hn) (fun _ => b0 ⟨rfl, hI2⟩))))
  refine eX10_goBack _ (bX10_goBack_0 _ ⟨fun c => no (rg_lo (a := 0) (by decide) (by decide) c), fun c => ⟨fun c' => ?_, fun c' => no ?_⟩⟩)
  · have c'' : x ≤ nI 1 := by
      rw [Int32.lt_iff_toInt_lt] at c'
      rw [Int32.le_iff_toInt_le, nI_toInt (by decide)]
      have : (2 : Int32).toInt = 2 := rfl
      omega
    obtain ⟨i, i1, i2, rfl⟩ := rg_in (a := 0) (b := 1) (by decide) (by decide) c c''
    have hi : i < 2 := by omega
    rw [tNI (by omega), (c3.2.1 i hi).1]
    refine ⟨vp_in_nI hi (by decide), fun c4 => ?_, fun c4 => ?_⟩
    · refine eX11_goBack _ (bX11_goBack_0 _ (r_inN 0 1 rfl rfl (by decide) (fun _ _ _ _ => b1 ⟨vp_in_nI hi (by decide), ?_⟩) (fun hn => absurd ⟨i, i1, i2, rfl⟩ hn)))
      rw [tNI (by omega), (d3.2.1 i hi).1]
      exact ⟨fun _ => ⟨rfl, hI2⟩, fun c5 => absurd c4 c5⟩
    · have hb : a.1.1 i = true := by
        cases hb : a.1.1 i with
        | true => rfl
        | false => exact absurd (by rw [hb]; rfl) c4
      obtain ⟨z1, z2⟩ := (c3.2.1 i hi).2 hb
      refine s_copyFrom stO_13 (stO_imgN i hi) z1 (by omega) (fun M1 f1 s1 => ?_)
      rintro M2 e2
      rw [f1 89 (by omega), z2] at e2
      refine s_forget (fun M4 f4 p4 => ?_)
      have g2 : ∀ c, c ≠ 0 → (c < 13 ∨ 17 ≤ c) → M2 c = M c := fun c h1 h2 => by rw [e2, pt_c _ _ h1, f1 c (by omega)]
      have g4 : ∀ c, c ≠ 21 → M4 c = M2 c := fun c hc => f4 c (by omega)
      have d3' : RO M4 t a := d3.kept (fun c hc => by unfold cR at hc; rw [g4 c (by omega), g2 c (by omega) (by omega)]) (fun k _ => by rw [g4 119 (by decide), g2 119 (by decide) (by decide)])
      obtain ⟨y1, y2⟩ := (d3'.2.1 i hi).2 hb
      refine eX11_goBack _ (bX11_goBack_0 _ (r_inN 0 1 rfl rfl (by decide) (fun _ _ _ _ => b1 ⟨vp_in_nI hi (by decide), ?_⟩) (fun hn => absurd ⟨i, i1, i2, rfl⟩ hn)))
      rw [tNI (by omega), (d3'.2.1 i hi).1, hb]
      refine ⟨fun c5 => absurd c5 (by decide), fun _ => ?_⟩
      refine up_ind 26 (fun k => ∀ Mk, fr 122 123 M4 Mk → (∀ j, j < k → Mk 122 j = M4 133 (27 * i + j)) → G κ mX11_goBack 27 [.ref 119, .int (nI i), .int (nI k)] [] Mk (fun r' M2 => 1 = r' ∧ IV M2)) ?_ ?_ 0 (by decide) M4 fr.rf (fun j hj => absurd hj (by omega))
      · intro Mk fk h1
        refine bX11_goBack_27 _ _ ⟨fun _ => ?_, fun c => absurd (by decide) c⟩
        rw [show (27 : Int32) = nI 27 from rfl, pk_mul, show (26 : Int32) = nI 26 from rfl, nI_add, tNI (by omega), fk 133 (by omega), y2]
        refine ⟨vp_in_nI (by omega) (by decide), ?_⟩
        rintro M5 rfl M6 e6
        have bc : ∀ c, c ≠ 119 → c ≠ 122 → M6 c = M4 c := fun c q1 q2 => by rw [e6, pt_c _ _ q1, pt_c _ _ q1, fk c (by omega)]
        have bk : ∀ k, k ≠ 19 → k ≠ 20 → M6 119 k = M4 119 k := fun k q q2 => by rw [e6, pt_k _ _ q, pt_k _ _ q2, fk 119 (by omega)]
        have cc : ∀ c, c < 119 → M6 c = M4 c := fun c hc => bc c (by omega) (by omega)
        have okI := ho.1 i hi hb
        refine ⟨rfl, t, a.1.2.1 i, 0, f, (a.1, a.2.1, a.2.2.1, a.1.2.2 i, a.2.2.2.2), ht, okI.1, fun j hj => absurd hj (Nat.not_lt_zero j), ⟨ho.1, ho.2.1, okI.2, ho.2.2.2⟩, ?_, ?_, CO_sd c3 (fun c hc hn => ?_) ?_ ?_, ?_, ⟨by decide, ?_, fun j hj => absurd hj (Nat.not_lt_zero j)⟩, RO_sd d3' (fun c hc hn => ?_) (fun q hq hn => ?_) ?_⟩
        · refine s1.kept ?_ ?_ ?_ ?_ <;> rw [cc _ (by omega), g4 _ (by omega), e2, pt_c _ _ (by omega)]
        · obtain ⟨q1, x1, q2, q3, q4, q5⟩ := p4 f
          exact ⟨q1, x1, q2, by rw [cc 21 (by omega)]; exact q3, by rw [cc 21 (by omega)]; exact q4, fun j hj => absurd hj (Nat.not_lt_zero j)⟩
        · unfold cC at hc; rw [cc c (by omega), g4 c (by omega), g2 c (by omega) (by omega)]
        · rw [cc 0 (by omega), g4 0 (by omega), e2, pt_k _ _ (by decide), f1 0 (by omega)]
        · rw [cc 0 (by omega), g4 0 (by omega), e2, pt_s]
        · refine y1.blk (fun j hj => ?_)
          rw [e6, pt_c _ _ (by decide), pt_c _ _ (by decide), Nat.zero_add, h1 j hj]
        · rw [e6, pt_s]; rfl
        · unfold cR at hc; exact bc c (by omega) (by omega)
        · unfold kR at hq; exact bk q (by omega) hn
        · rw [e6, pt_k _ _ (by decide), pt_s]
      · intro k hk ih Mk fk h1
        refine bX11_goBack_27 _ _ ⟨fun c => absurd c (c26 hk), fun _ => ?_⟩
        rw [show (27 : Int32) = nI 27 from rfl, pk_mul, nI_add, tNI (by omega), tNI (by omega), nI_1]
        refine ⟨vp_in_nI (by omega) (by decide), v26 hk, ?_⟩
        rintro M5 rfl
        refine ih _ (fk.pt (by omega) (by omega)) (fun j hj => ?_)
        by_cases e : j = k
        · subst e; rw [pt_s, fk 133 (by omega)]
        · rw [pt_k _ _ e]; exact h1 j (by omega)
  · rintro ⟨k, k1, k2, rfl⟩
    exact c' (nI_lt (b := 2) (by omega) (by decide))
end Ops9
