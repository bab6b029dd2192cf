section Ops5
variable {κ : gK} {M : MM}
theorem op_torn (hI : IV M) (x y : Int32) : Cl κ mX10_torn [.ref 0, .int x, .int y] M (fun r M1 => Cl κ mX11_torn [.ref 119, .int x, .int y] M1 (fun r' M2 => r = r' ∧ IV M2)) := by
  have hI2 := hI
  obtain ⟨t, s, u, f, a, ht, hs, hu, ho, c1, c2, c3, d1, d2, d3⟩ := hI
  have h9 := ht.n9
  refine eX10_torn _ _ (bX10_torn_0 _ _ (s_hasLayer twO_1 c3.1 ht (fun k hk e => b1 (s_hasLayer twO_1 c3.1 ht (fun j hj e' => b1 ⟨fun c => bX10_torn_27 ?_, fun c => ?_⟩) (fun hn => b0 (bX10_torn_27 ?_)))) (fun hn => b0 (bX10_torn_27 ?_))))
  · exact eX11_torn _ _ (bX11_torn_0 _ _ (r_isLayer d3.1 ht (fun k2 hk2 e2 => b1 (r_isLayer d3.1 ht (fun j2 hj2 e3 => b1 ⟨fun _ => bX11_torn_35 (bX11_torn_37 _ ⟨rfl, hI2⟩), fun c2 => absurd c c2⟩) (fun hn => absurd ⟨j, hj, e'⟩ hn))) (fun hn2 => absurd ⟨k, hk, e⟩ hn2)))
  · subst e; subst e'
    rw [one_shl (by omega), one_shl (by omega)]
    refine s_whoIsOn stO_13 c1 (hs.1.b512 ht) (s_whoIsOn stO_13 c1 (hs.1.b512 ht) ?_)
    exact eX11_torn _ _ (bX11_torn_0 _ _ (r_isLayer d3.1 ht (fun k2 hk2 e2 => b1 (r_isLayer d3.1 ht (fun j2 hj2 e3 => b1 ⟨fun c2 => absurd c2 c, fun _ => r_whoOn (by omega) d3.1 ht d1 hs.1 (r_whoOn (by omega) d3.1 ht d1 hs.1 (bX11_torn_37 _ ⟨rfl, hI2⟩))⟩) (fun hn => absurd ⟨j, hj, rfl⟩ hn))) (fun hn2 => absurd ⟨k, hk, rfl⟩ hn2)))
  · exact eX11_torn _ _ (bX11_torn_0 _ _ (r_isLayer d3.1 ht (fun k2 hk2 e2 => b1 (r_isLayer d3.1 ht (fun j2 hj2 e3 => absurd ⟨j2, hj2, e3⟩ hn) (fun _ => b0 (bX11_torn_35 (bX11_torn_37 _ ⟨rfl, hI2⟩))))) (fun hn2 => absurd ⟨k, hk, e⟩ hn2)))
  · exact eX11_torn _ _ (bX11_torn_0 _ _ (r_isLayer d3.1 ht (fun k2 hk2 e2 => absurd ⟨k2, hk2, e2⟩ hn) (fun _ => b0 (bX11_torn_35 (bX11_torn_37 _ ⟨rfl, hI2⟩)))))
def dkF (q : Int32) : Nat → Int64
  | 0 => 1000000000
  | k + 1 => (dkF q k * q.toInt64) / 100
theorem rg_gt {x : Int32} {a b : Nat} (hb : b < 2 ^ 31) (h : nI b < x) : ¬ ∃ k, a ≤ k ∧ k ≤ b ∧ x = nI k := rg_hi hb (fun e => by rw [Int32.lt_iff_toInt_lt] at h; rw [Int32.le_iff_toInt_le] at e; omega)
theorem ngt_le {x y : Int32} (h : ¬ y < x) : x ≤ y := by rw [Int32.lt_iff_toInt_lt] at h; rw [Int32.le_iff_toInt_le]; omega
theorem op_dark (hI : IV M) (x y : Int32) : Cl κ mX10_dark [.ref 0, .int x, .int y] M (fun r M1 => Cl κ mX11_dark [.ref 119, .int x, .int y] M1 (fun r' M2 => r = r' ∧ IV M2)) := by
  have ref0 : ((¬ ∃ k, 0 ≤ k ∧ k ≤ 60 ∧ x = nI k) ∨ (¬ ∃ k, 0 ≤ k ∧ k ≤ 100 ∧ y = nI k)) → Cl κ mX11_dark [.ref 119, .int x, .int y] M (fun r' M2 => -1000000002 = r' ∧ IV M2) := by
    intro hn
    refine eX11_dark _ _ (bX11_dark_0 _ _ (r_inN 0 60 rfl rfl (by decide) (fun k k1 k2 e => b1 (r_inN 0 100 rfl rfl (by decide) (fun j j1 j2 e2 => ?_) (fun _ => b0 (bX11_dark_24 ⟨rfl, hI⟩)))) (fun _ => b0 (bX11_dark_24 ⟨rfl, hI⟩))))
    rcases hn with h | h
    · exact absurd ⟨k, k1, k2, e⟩ h
    · exact absurd ⟨j, j1, j2, e2⟩ h
  have no : ((¬ ∃ k, 0 ≤ k ∧ k ≤ 60 ∧ x = nI k) ∨ (¬ ∃ k, 0 ≤ k ∧ k ≤ 100 ∧ y = nI k)) → G κ mX10_dark 20 [.null, .null, .null, .null, .null, .null] [] M (fun r M1 => Cl κ mX11_dark [.ref 119, .int x, .int y] M1 (fun r' M2 => r = r' ∧ IV M2)) := fun hn => bX10_dark_20 (ref0 hn)
  refine eX10_dark _ _ (bX10_dark_0 _ _ ⟨fun c => no (Or.inl (rg_lo (a := 0) (by decide) (by decide) c)), fun c => ⟨fun c' => no (Or.inl (rg_gt (b := 60) (by decide) c')), fun c' => ⟨fun c2 => no (Or.inr (rg_lo (a := 0) (by decide) (by decide) c2)), fun c2 => ⟨fun c3 => ?_, fun c3 => no (Or.inr (rg_hi (by decide) c3))⟩⟩⟩⟩)
  obtain ⟨n, n1, n2, rfl⟩ := rg_in (a := 0) (b := 60) (by decide) (by decide) c (ngt_le c')
  obtain ⟨q, q1, q2, rfl⟩ := rg_in (a := 0) (b := 100) (by decide) (by decide) c2 c3
  refine up_ind n (fun k => G κ mX10_dark 30 [.null, .int (nI n), .int (nI q), .long (dkF (nI q) k), .null, .int (nI k)] [] M (fun r M1 => Cl κ mX11_dark [.ref 119, .int (nI n), .int (nI q)] M1 (fun r' M2 => r = r' ∧ IV M2))) ?_ ?_ 0 (Nat.zero_le _)
  · refine bX10_dark_30 _ _ _ _ ⟨fun _ => ?_, fun c => absurd (Int32.le_refl _) c⟩
    refine eX11_dark _ _ (bX11_dark_0 _ _ (r_inN 0 60 rfl rfl (by decide) (fun _ _ _ _ => b1 (r_inN 0 100 rfl rfl (by decide) (fun _ _ _ _ => b1 ?_) (fun hn => absurd ⟨q, q1, q2, rfl⟩ hn))) (fun hn => absurd ⟨n, n1, n2, rfl⟩ hn)))
    refine up_ind n (fun k => G κ mX11_dark 34 [.null, .int (nI n), .int (nI q), .long (dkF (nI q) k), .null, .int (nI k)] [] M (fun r' M2 => (dkF (nI q) n).toInt32 = r' ∧ IV M2)) ?_ ?_ 0 (Nat.zero_le _)
    · exact bX11_dark_34 _ _ _ _ ⟨fun _ => ⟨rfl, hI⟩, fun c => absurd (Int32.le_refl _) c⟩
    · intro k hk ih
      refine bX11_dark_34 _ _ _ _ ⟨fun c => absurd c (nI_ge hk (by omega)), fun _ => ?_⟩
      rw [nI_1]; exact ih
  · intro k hk ih
    refine bX10_dark_30 _ _ _ _ ⟨fun c => absurd c (nI_ge hk (by omega)), fun _ => ?_⟩
    rw [nI_1]; exact ih
/-- one more behind a row -/
theorem upN_lt {f : Nat → Nat} {c v i : Nat} (h : i ≠ c) : upN f c v i = f i := if_neg h
theorem upN_s {f : Nat → Nat} {c v : Nat} : upN f c v c = v := if_pos rfl
theorem op_shadow (hI : IV M) (x y : Int32) : Cl κ mX10_shadow [.ref 0, .int x, .int y] M (fun r M1 => Cl κ mX11_shadow [.ref 119, .int x, .int y] M1 (fun r' M2 => r = r' ∧ IV M2)) := by
  have hI2 := hI
  obtain ⟨t, s, u, f, a, ht, hs, hu, ho, c1, c2, c3, d1, d2, d3⟩ := hI
  have h9 := ht.n9
  have n1 : ((M 119 0) - 1).toInt64.toInt = (t.1 : Int) - 1 := by
    rw [d3.1.1, Int32.toInt_toInt64, show (1 : Int32) = nI 1 from rfl, pk_sub_toInt (by omega) (by decide)]; rfl
  have ref0 : ((¬ ∃ k, 1 ≤ k ∧ k ≤ 9 ∧ x = nI k) ∨ ¬ isIx y t.1) → Cl κ mX11_shadow [.ref 119, .int x, .int y] M (fun r' M2 => -1000000002 = r' ∧ IV M2) := by
    intro hn
    refine eX11_shadow _ _ (bX11_shadow_0 _ _ (r_inN 1 9 rfl rfl (by decide) (fun k k1 k2 e => b1 (r_inP (n := t.1) (by omega) n1 (fun j hj e2 => ?_) (fun _ => b0 (bX11_shadow_28 ⟨rfl, hI2⟩)))) (fun _ => b0 (bX11_shadow_28 ⟨rfl, hI2⟩))))
    rcases hn with h | h
    · exact absurd ⟨k, k1, k2, e⟩ h
    · exact absurd ⟨j, hj, e2⟩ h
  have no : ((¬ ∃ k, 1 ≤ k ∧ k ≤ 9 ∧ x = nI k) ∨ ¬ isIx y t.1) → G κ mX10_shadow 22 [.null, .null, .null] [] M (fun r M1 => Cl κ mX11_shadow [.ref 119, .int x, .int y] M1 (fun r' M2 => r = r' ∧ IV M2)) := fun hn => bX10_shadow_22 (ref0 hn)
  refine eX10_shadow _ _ (bX10_shadow_0 _ _ ⟨fun c => no (Or.inl (rg_lo (by decide) (by decide) c)), fun c => ⟨fun c' => no (Or.inl (rg_gt (b := 9) (by decide) c')), fun c' => s_hasLayer twO_1 c3.1 ht (fun m hm e => b1 ?_) (fun hn => b0 (no (Or.inr hn)))⟩⟩)
  obtain ⟨l, l1, l2, rfl⟩ := rg_in (a := 1) (b := 9) (by decide) (by decide) c (ngt_le c')
  subst e
  obtain ⟨hc6, hcb⟩ := ho.2.2.2.1
  have h105 : M 105 3 = nI a.2.2.2.2.1.1 := c3.2.2.2.2.2.1.1
  have h24 : M 119 24 = nI a.2.2.2.2.1.1 := d3.2.2.2.2.2.1.1
  rw [h105]
  refine ⟨fun c4 => ?_, fun c4 => ?_⟩
  · have hl := (nI_ltI (b := 6) (by omega) (by decide)).mp c4
    refine eX6_add _ _ (bX6_add_0 _ _ ⟨fun e => ?_, fun _ => ?_⟩)
    · rw [h105] at e; exact absurd e (nI_ge (b := 6) hl (by decide))
    rw [h105, tNI (by omega)]
    refine ⟨vp_in_nI hl (by decide), fun M1 e1 => ?_⟩
    have h1 : M1 105 3 = nI a.2.2.2.2.1.1 := by rw [e1, pt_c _ _ (by decide)]; exact h105
    rw [h1, tNI (by omega)]
    refine ⟨vp_in_nI hl (by decide), fun M2 e2 M3 e3 => bX6_add_39 ?_⟩
    rw [e2, pt_c _ _ (by decide), h1, nI_1] at e3
    have h3 : M3 105 3 = nI (a.2.2.2.2.1.1 + 1) := by rw [e3, pt_s]
    rw [h3]
    have fM : fr 105 108 M M3 := by rw [e3, e1]; exact ((fr.rf.pt (by omega) (by omega)).pt (by omega) (by omega)).pt (by omega) (by omega)
    have e24 : M3 119 24 = nI a.2.2.2.2.1.1 := by rw [fM 119 (by omega)]; exact h24
    have n1' : ((M3 119 0) - 1).toInt64.toInt = (t.1 : Int) - 1 := by rw [fM 119 (by omega)]; exact n1
    refine eX11_shadow _ _ (bX11_shadow_0 _ _ (r_inN 1 9 rfl rfl (by decide) (fun _ _ _ _ => b1 (r_inP (n := t.1) (by omega) n1' (fun _ _ _ => b1 ⟨fun c => ?_, fun _ => ?_⟩) (fun hn => absurd ⟨m, hm, rfl⟩ hn))) (fun hn => absurd ⟨l, l1, l2, rfl⟩ hn)))
    · rw [e24] at c; exact absurd (nI_inj (b := 6) (by omega) (by decide) c) (by omega)
    rw [e24, show (2 : Int32) = nI 2 from rfl, pk_mul, tNI (by omega)]
    refine ⟨vp_in_nI (by omega) (by decide), fun M4 e4 => ?_⟩
    have e24' : M4 119 24 = nI a.2.2.2.2.1.1 := by rw [e4, pt_c _ _ (by decide)]; exact e24
    rw [e24', pk_mul, nI_1, tNI (by omega)]
    refine ⟨vp_in_nI (by omega) (by decide), fun M5 e5 M6 e6 => ?_⟩
    rw [e5, pt_c _ _ (by decide), e24', nI_1] at e6
    have h6 : M6 119 24 = nI (a.2.2.2.2.1.1 + 1) := by rw [e6, pt_s]
    have f2 : fr 119 130 M3 M6 := by rw [e6, e4]; exact ((fr.rf.pt (by omega) (by omega)).pt (by omega) (by omega)).pt (by omega) (by omega)
    have bc : ∀ c, c ≠ 119 → c ≠ 129 → M6 c = M3 c := fun c h1 h2 => by rw [e6, pt_c _ _ h1, pt_c _ _ h2, e4, pt_c _ _ h2]
    have bk : ∀ k, k ≠ 24 → M6 119 k = M3 119 k := fun k h => by rw [e6, pt_k _ _ h, pt_c _ _ (by decide), e4, pt_c _ _ (by decide)]
    refine ⟨h6.symm, t, s, u, f, (a.1, a.2.1, a.2.2.1, a.2.2.2.1, (a.2.2.2.2.1.1 + 1, upN a.2.2.2.2.1.2.1 a.2.2.2.2.1.1 l, upN a.2.2.2.2.1.2.2 a.2.2.2.2.1.1 m), a.2.2.2.2.2), ht, hs, hu, ⟨ho.1, ho.2.1, ho.2.2.1, ⟨show a.2.2.2.2.1.1 + 1 ≤ 6 by omega, fun i (hi : i < a.2.2.2.2.1.1 + 1) => ?_⟩, ho.2.2.2.2⟩, (c1.fr fM (by omega)).fr f2 (by omega), (c2.fr fM (by omega)).fr f2 (by omega), CO_sh c3 (fun c hc hn => ?_) ⟨by rw [f2 105 (by omega)]; exact h3, fun i (hi : i < a.2.2.2.2.1.1 + 1) => ?_⟩, (d1.fr fM (by omega)).blk (fun j _ => by rw [bc 122 (by decide) (by decide)]), (d2.fr fM (by decide)).kept (bk 19 (by decide)) (bc 126 (by decide) (by decide)), RO_sh (d3.fr fM (by decide)) (fun c hc hn => ?_) (fun q hq hn => bk q hn) ⟨h6, fun i (hi : i < a.2.2.2.2.1.1 + 1) => ?_⟩⟩
    · show 1 ≤ upN _ _ _ i ∧ upN _ _ _ i ≤ 9 ∧ upN _ _ _ i < t.1
      by_cases e : i = a.2.2.2.2.1.1
      · rw [e, upN_s, upN_s]; exact ⟨l1, l2, hm⟩
      · rw [upN_lt e, upN_lt e]; exact hcb i (by omega)
    · unfold cC at hc; rw [f2 c (by omega), fM c (by omega)]
    · show _ = nI (upN _ _ _ i) ∧ _ = nI (upN _ _ _ i)
      rw [f2 106 (by omega), f2 107 (by omega), e3, pt_c _ _ (by decide), pt_c _ _ (by decide), pt_c _ _ (by decide), e1]
      by_cases e : i = a.2.2.2.2.1.1
      · rw [e, upN_s, upN_s, pt_s, pt_s]; exact ⟨rfl, rfl⟩
      · rw [upN_lt e, upN_lt e, pt_k _ _ e, pt_k _ _ e, pt_c _ _ (by decide)]; exact c3.2.2.2.2.2.1.2 i (by omega)
    · unfold cR at hc; exact bc c (by omega) (by omega)
    · show _ = nI (upN _ _ _ i) ∧ _ = nI (upN _ _ _ i)
      rw [e6, pt_c _ _ (by decide), e4]
      by_cases e : i = a.2.2.2.2.1.1
      · rw [e, upN_s, upN_s, pt_s, pt_k _ _ (by omega), pt_s]; exact ⟨rfl, rfl⟩
      · rw [upN_lt e, upN_lt e, pt_k _ _ (by omega), pt_k _ _ (by omega), pt_k _ _ (by omega), pt_k _ _ (by omega), fM 129 (by omega)]; exact d3.2.2.2.2.2.1.2 i (by omega)
  · have e6 : a.2.2.2.2.1.1 = 6 := by
      have : ¬ a.2.2.2.2.1.1 < 6 := fun e => c4 (nI_lt (b := 6) e (by decide))
      omega
    exact eX11_shadow _ _ (bX11_shadow_0 _ _ (r_inN 1 9 rfl rfl (by decide) (fun _ _ _ _ => b1 (r_inP (n := t.1) (by omega) n1 (fun _ _ _ => b1 ⟨fun _ => ⟨rfl, hI2⟩, fun c => absurd (by rw [h24, e6]; rfl) c⟩) (fun hn => absurd ⟨m, hm, rfl⟩ hn))) (fun hn => absurd ⟨l, l1, l2, rfl⟩ hn)))
theorem op_met (hI : IV M) (x y z : Int32) (hz : isB z) : Cl κ mX10_met [.ref 0, .int x, .int y, .int z] M (fun r M1 => Cl κ mX11_met [.ref 119, .int x, .int y, .int z] M1 (fun r' M2 => r = r' ∧ IV M2)) := by
  have hI2 := hI
  obtain ⟨t, s, u, f, a, ht, hs, hu, ho, c1, c2, c3, d1, d2, d3⟩ := hI
  have hP := ht.2.1
  refine eX10_met _ _ _ (bX10_met_0 _ _ _ (s_hasPerson twO_1 c3.1 ht (fun p hp e => b1 (s_hasPerson twO_1 c3.1 ht (fun q hq e' => b1 ⟨fun c => bX10_met_27 ?_, fun c => ?_⟩) (fun hn => b0 (bX10_met_27 ?_)))) (fun hn => b0 (bX10_met_27 ?_))))
  · exact eX11_met _ _ _ (bX11_met_0 _ _ _ (r_isPerson d3.1 ht (fun _ _ _ => b1 (r_isPerson d3.1 ht (fun _ _ _ => b1 ⟨fun _ => bX11_met_21 ⟨rfl, hI2⟩, fun c2 => absurd c c2⟩) (fun hn => absurd ⟨q, hq, e'⟩ hn))) (fun hn2 => absurd ⟨p, hp, e⟩ hn2)))
  · subst e; subst e'
    have hpq : p ≠ q := fun e => c (by rw [e])
    obtain ⟨hc6, hcb⟩ := ho.2.2.2.2.1
    obtain ⟨n, hn, hng, hnb⟩ : ∃ n : Nat, n = a.2.2.2.2.2.1.1 ∧ M 109 5 = nI n ∧ M 119 26 = nI n := ⟨_, rfl, c3.2.2.2.2.2.2.1.1, d3.2.2.2.2.2.2.1.1⟩
    obtain ⟨zn, hzn, hz1, hz0⟩ : ∃ zn : Nat, z = nI zn ∧ zn ≤ 1 ∧ (z = 0 ↔ zn = 0) := by
      rcases hz with rfl | rfl
      · exact ⟨0, rfl, by decide, by decide⟩
      · exact ⟨1, rfl, by decide, by decide⟩
    rw [hng]
    refine ⟨fun c4 => ?_, fun c4 => ?_⟩
    · have hl := (nI_ltI (b := 10) (by omega) (by decide)).mp c4
      refine eX3_add _ _ _ (bX3_add_0 _ _ _ ⟨fun e => ?_, fun _ => ?_⟩)
      · rw [hng] at e; exact absurd e (nI_ge (b := 10) hl (by decide))
      rw [hng, tNI (by omega)]
      refine ⟨vp_in_nI hl (by decide), fun M1 e1 => ?_⟩
      have h1 : M1 109 5 = nI n := by rw [e1, pt_c _ _ (by decide)]; exact hng
      rw [h1, tNI (by omega)]
      refine ⟨vp_in_nI hl (by decide), fun M2 e2 => ?_⟩
      have h2 : M2 109 5 = nI n := by rw [e2, pt_c _ _ (by decide)]; exact h1
      rw [h2, tNI (by omega), isB_v hz]
      refine ⟨vp_in_nI hl (by decide), fun M3 e3 M4 e4 => bX3_add_49 ?_⟩
      have h3 : M3 109 5 = nI n := by rw [e3, pt_c _ _ (by decide)]; exact h2
      rw [h3, nI_1] at e4
      have h4 : M4 109 5 = nI (n + 1) := by rw [e4, pt_s]
      rw [h4]
      have fM : fr 109 113 M M4 := by rw [e4, e3, e2, e1]; exact (((fr.rf.pt (by omega) (by omega)).pt (by omega) (by omega)).pt (by omega) (by omega)).pt (by omega) (by omega)
      have d3' : RO M4 t a := d3.fr fM (by decide)
      have e26 : M4 119 26 = nI n := by rw [fM 119 (by omega)]; exact hnb
      refine eX11_met _ _ _ (bX11_met_0 _ _ _ (r_isPerson d3'.1 ht (fun _ _ _ => b1 (r_isPerson d3'.1 ht (fun _ _ _ => b1 ⟨fun c2 => absurd c2 c, fun _ => ⟨fun c2 => ?_, fun _ => ?_⟩⟩) (fun hn => absurd ⟨q, hq, rfl⟩ hn))) (fun hn2 => absurd ⟨p, hp, rfl⟩ hn2)))
      · rw [e26] at c2; exact absurd (nI_inj (b := 10) (by omega) (by decide) c2) (by omega)
      rw [e26, show (3 : Int32) = nI 3 from rfl, pk_mul, tNI (by omega)]
      refine ⟨vp_in_nI (by omega) (by decide), fun M5 e5 => ?_⟩
      have h5 : M5 119 26 = nI n := by rw [e5, pt_c _ _ (by decide)]; exact e26
      rw [h5, pk_mul, nI_1, tNI (by omega)]
      refine ⟨vp_in_nI (by omega) (by decide), fun M6 e6 => ?_⟩
      have h6 : M6 119 26 = nI n := by rw [e6, pt_c _ _ (by decide)]; exact h5
      rw [h6, pk_mul, show (2 : Int32) = nI 2 from rfl, nI_add]
      have fin : ∀ v, v = nI zn → G κ mX11_met 83 [.ref 119, .null, .null, .null] [.int v, .int (nI (3 * n + 2)), .ref 130] M6 (fun r' M2 => nI (n + 1) = r' ∧ IV M2) := by
        rintro v rfl
        refine bX11_met_83 _ _ ?_
        rw [tNI (by omega)]
        refine ⟨vp_in_nI (by omega) (by decide), fun M7 e7 M8 e8 => ?_⟩
        rw [e7, pt_c _ _ (by decide), h6, nI_1] at e8
        have h8 : M8 119 26 = nI (n + 1) := by rw [e8, pt_s]
        have f2 : fr 119 131 M4 M8 := by rw [e8, e6, e5]; exact (((fr.rf.pt (by omega) (by omega)).pt (by omega) (by omega)).pt (by omega) (by omega)).pt (by omega) (by omega)
        have bc : ∀ c, c ≠ 119 → c ≠ 130 → M8 c = M4 c := fun c h1 h2 => by rw [e8, pt_c _ _ h1, pt_c _ _ h2, e6, pt_c _ _ h2, e5, pt_c _ _ h2]
        have bk : ∀ k, k ≠ 26 → M8 119 k = M4 119 k := fun k h => by rw [e8, pt_k _ _ h, pt_c _ _ (by decide), e6, pt_c _ _ (by decide), e5, pt_c _ _ (by decide)]
        refine ⟨h8.symm, t, s, u, f, (a.1, a.2.1, a.2.2.1, a.2.2.2.1, a.2.2.2.2.1, (n + 1, upN a.2.2.2.2.2.1.2.1 n p, upN a.2.2.2.2.2.1.2.2.1 n q, upN a.2.2.2.2.2.1.2.2.2 n zn), a.2.2.2.2.2.2), ht, hs, hu, ⟨ho.1, ho.2.1, ho.2.2.1, ho.2.2.2.1, ⟨show n + 1 ≤ 10 by omega, fun i (hi : i < n + 1) => ?_⟩, ho.2.2.2.2.2⟩, (c1.fr fM (by omega)).fr f2 (by omega), (c2.fr fM (by omega)).fr f2 (by omega), CO_me c3 (fun c hc hn => ?_) ⟨by rw [f2 109 (by omega)]; exact h4, fun i (hi : i < n + 1) => ?_⟩, (d1.fr fM (by omega)).blk (fun j _ => by rw [bc 122 (by decide) (by decide)]), (d2.fr fM (by decide)).kept (bk 19 (by decide)) (bc 126 (by decide) (by decide)), RO_me d3' (fun c hc hn => ?_) (fun q hq hn => bk q hn) ⟨h8, fun i (hi : i < n + 1) => ?_⟩⟩
        · show upN _ _ _ i < t.2.2.1 ∧ upN _ _ _ i < t.2.2.1 ∧ upN _ _ _ i ≠ upN _ _ _ i ∧ upN _ _ _ i ≤ 1
          by_cases e : i = n
          · rw [e, upN_s, upN_s, upN_s]; exact ⟨hp, hq, hpq, hz1⟩
          · rw [upN_lt e, upN_lt e, upN_lt e]; exact hcb i (by omega)
        · unfold cC at hc; rw [f2 c (by omega), fM c (by omega)]
        · show _ = nI (upN _ _ _ i) ∧ _ = nI (upN _ _ _ i) ∧ _ = nI (upN _ _ _ i)
          rw [f2 110 (by omega), f2 111 (by omega), f2 112 (by omega), e4, pt_c _ _ (by decide), pt_c _ _ (by decide), pt_c _ _ (by decide), e3, pt_c _ _ (by decide), pt_c _ _ (by decide), e2, pt_c _ _ (by decide), e1]
          by_cases e : i = n
          · rw [e, upN_s, upN_s, upN_s, pt_s, pt_s, pt_s]; exact ⟨rfl, rfl, hzn⟩
          · rw [upN_lt e, upN_lt e, upN_lt e, pt_k _ _ e, pt_k _ _ e, pt_k _ _ e, pt_c _ _ (by decide), pt_c _ _ (by decide), pt_c _ _ (by decide)]; exact c3.2.2.2.2.2.2.1.2 i (by omega)
        · unfold cR at hc; exact bc c (by omega) (by omega)
        · show _ = nI (upN _ _ _ i) ∧ _ = nI (upN _ _ _ i) ∧ _ = nI (upN _ _ _ i)
          rw [e8, pt_c _ _ (by decide), e6, e5]
          by_cases e : i = n
          · rw [e, upN_s, upN_s, upN_s, pt_s, pt_k _ _ (by omega), pt_k _ _ (by omega), pt_s, pt_k _ _ (by omega), pt_s]; exact ⟨rfl, rfl, rfl⟩
          · rw [upN_lt e, upN_lt e, upN_lt e, pt_k _ _ (by omega), pt_k _ _ (by omega), pt_k _ _ (by omega), pt_k _ _ (by omega), pt_k _ _ (by omega), pt_k _ _ (by omega), pt_k _ _ (by omega), pt_k _ _ (by omega), pt_k _ _ (by omega), fM 130 (by omega)]; exact d3.2.2.2.2.2.2.1.2 i (by omega)
      refine ⟨fun c5 => fin 0 (by rw [hz0.mp c5]; rfl), fun c5 => fin 1 ?_⟩
      have : zn = 1 := by
        have : zn ≠ 0 := fun e => c5 (hz0.mpr e)
        omega
      rw [this]; rfl
    · have e6 : n = 10 := by
        have : ¬ n < 10 := fun e => c4 (nI_lt (b := 10) e (by decide))
        omega
      exact eX11_met _ _ _ (bX11_met_0 _ _ _ (r_isPerson d3.1 ht (fun _ _ _ => b1 (r_isPerson d3.1 ht (fun _ _ _ => b1 ⟨fun c2 => absurd c2 c, fun _ => ⟨fun _ => ⟨rfl, hI2⟩, fun c2 => absurd (by rw [hnb, e6]; rfl) c2⟩⟩) (fun hn => absurd ⟨q, hq, rfl⟩ hn))) (fun hn2 => absurd ⟨p, hp, rfl⟩ hn2)))
  · exact eX11_met _ _ _ (bX11_met_0 _ _ _ (r_isPerson d3.1 ht (fun _ _ _ => b1 (r_isPerson d3.1 ht (fun j2 hj2 e3 => absurd ⟨j2, hj2, e3⟩ hn) (fun _ => b0 (bX11_met_21 ⟨rfl, hI2⟩)))) (fun hn2 => absurd ⟨p, hp, e⟩ hn2)))
  · exact eX11_met _ _ _ (bX11_met_0 _ _ _ (r_isPerson d3.1 ht (fun k2 hk2 e2 => absurd ⟨k2, hk2, e2⟩ hn) (fun _ => b0 (bX11_met_21 ⟨rfl, hI2⟩))))
end Ops5
