section Ops6
variable {κ : gK} {M : MM}
theorem op_write (hI : IV M) (x y z : Int32) (hz : isB z) : Cl κ mX10_write [.ref 0, .int x, .int y, .int z] M (fun r M1 => Cl κ mX11_write [.ref 119, .int x, .int y, .int z] M1 (fun r' M2 => r = r' ∧ IV M2)) := by
  have hI2 := hI
  obtain ⟨t, s, u, f, a, ht, hs, hu, ho, c1, c2, c3, d1, d2, d3⟩ := hI
  have hP := ht.2.1
  refine eX10_write _ _ _ (bX10_write_0 _ _ _ (s_hasPerson twO_1 c3.1 ht (fun p hp e => b1 (s_hasLayer twO_1 c3.1 ht (fun q hq e' => b1 ?_) (fun hn => b0 (bX10_write_22 ?_)))) (fun hn => b0 (bX10_write_22 ?_))))
  · subst e; subst e'
    obtain ⟨hc6, hcb⟩ := ho.2.2.2.2.2
    obtain ⟨n, hn, hng, hnb⟩ : ∃ n : Nat, n = a.2.2.2.2.2.2.1 ∧ M 115 3 = nI n ∧ M 119 29 = nI n := ⟨_, rfl, c3.2.2.2.2.2.2.2.1.1, d3.2.2.2.2.2.2.2.1⟩
    obtain ⟨zn, hzn, hz1, hz0⟩ : ∃ zn : Nat, z = nI zn ∧ zn ≤ 1 ∧ (z = 0 ↔ zn = 0) := by
      rcases hz with rfl | rfl
      · exact ⟨0, rfl, by decide, by decide⟩
      · exact ⟨1, rfl, by decide, by decide⟩
    rw [hng]
    refine ⟨fun c4 => ?_, fun c4 => ?_⟩
    · have hl := (nI_ltI (b := 15) (by omega) (by decide)).mp c4
      refine eX0_add _ _ _ (bX0_add_0 _ _ _ ⟨fun e => ?_, fun _ => ?_⟩)
      · rw [hng] at e; exact absurd e (nI_ge (b := 15) hl (by decide))
      rw [hng, tNI (by omega)]
      refine ⟨vp_in_nI hl (by decide), fun M1 e1 => ?_⟩
      have h1 : M1 115 3 = nI n := by rw [e1, pt_c _ _ (by decide)]; exact hng
      rw [h1, tNI (by omega)]
      refine ⟨vp_in_nI hl (by decide), fun M2 e2 => ?_⟩
      have h2 : M2 115 3 = nI n := by rw [e2, pt_c _ _ (by decide)]; exact h1
      rw [h2, tNI (by omega), isB_v hz]
      refine ⟨vp_in_nI hl (by decide), fun M3 e3 M4 e4 => bX0_add_49 ?_⟩
      have h3 : M3 115 3 = nI n := by rw [e3, pt_c _ _ (by decide)]; exact h2
      rw [h3, nI_1] at e4
      have h4 : M4 115 3 = nI (n + 1) := by rw [e4, pt_s]
      rw [h4]
      have fM : fr 115 119 M M4 := by rw [e4, e3, e2, e1]; exact (((fr.rf.pt (by omega) (by omega)).pt (by omega) (by omega)).pt (by omega) (by omega)).pt (by omega) (by omega)
      have d3' : RO M4 t a := d3.fr fM (by decide)
      have e26 : M4 119 29 = nI n := by rw [fM 119 (by omega)]; exact hnb
      refine eX11_write _ _ _ (bX11_write_0 _ _ _ (r_isPerson d3'.1 ht (fun _ _ _ => b1 (r_isLayer d3'.1 ht (fun _ _ _ => b1 ⟨fun c2 => ?_, fun _ => ?_⟩) (fun hn => absurd ⟨q, hq, rfl⟩ hn))) (fun hn2 => absurd ⟨p, hp, rfl⟩ hn2)))
      · rw [e26] at c2; exact absurd (nI_inj (b := 15) (by omega) (by decide) c2) (by omega)
      rw [e26, show (3 : Int32) = nI 3 from rfl, pk_mul, tNI (by omega)]
      refine ⟨vp_in_nI (by omega) (by decide), fun M5 e5 => ?_⟩
      have h5 : M5 119 29 = nI n := by rw [e5, pt_c _ _ (by decide)]; exact e26
      rw [h5, pk_mul, nI_1, tNI (by omega)]
      refine ⟨vp_in_nI (by omega) (by decide), fun M6 e6 => ?_⟩
      have h6 : M6 119 29 = nI n := by rw [e6, pt_c _ _ (by decide)]; exact h5
      rw [h6, pk_mul, show (2 : Int32) = nI 2 from rfl, nI_add]
      have fin : ∀ v, v = nI zn → G κ mX11_write 78 [.ref 119, .null, .null, .null] [.int v, .int (nI (3 * n + 2)), .ref 132] M6 (fun r' M2 => nI (n + 1) = r' ∧ IV M2) := by
        rintro v rfl
        refine bX11_write_78 _ _ ?_
        rw [tNI (by omega)]
        refine ⟨vp_in_nI (by omega) (by decide), fun M7 e7 M8 e8 => ?_⟩
        rw [e7, pt_c _ _ (by decide), h6, nI_1] at e8
        have h8 : M8 119 29 = nI (n + 1) := by rw [e8, pt_s]
        have f2 : fr 119 133 M4 M8 := by rw [e8, e6, e5]; exact (((fr.rf.pt (by omega) (by omega)).pt (by omega) (by omega)).pt (by omega) (by omega)).pt (by omega) (by omega)
        have bc : ∀ c, c ≠ 119 → c ≠ 132 → M8 c = M4 c := fun c h1 h2 => by rw [e8, pt_c _ _ h1, pt_c _ _ h2, e6, pt_c _ _ h2, e5, pt_c _ _ h2]
        have bk : ∀ k, k ≠ 29 → M8 119 k = M4 119 k := fun k h => by rw [e8, pt_k _ _ h, pt_c _ _ (by decide), e6, pt_c _ _ (by decide), e5, pt_c _ _ (by decide)]
        refine ⟨h8.symm, t, s, u, f, (a.1, a.2.1, a.2.2.1, a.2.2.2.1, a.2.2.2.2.1, a.2.2.2.2.2.1, (n + 1, upN a.2.2.2.2.2.2.2.1 n p, upN a.2.2.2.2.2.2.2.2.1 n q, upN a.2.2.2.2.2.2.2.2.2 n zn)), ht, hs, hu, ⟨ho.1, ho.2.1, ho.2.2.1, ho.2.2.2.1, ho.2.2.2.2.1, ⟨show n + 1 ≤ 15 by omega, fun i (hi : i < n + 1) => ?_⟩⟩, (c1.fr fM (by omega)).fr f2 (by omega), (c2.fr fM (by omega)).fr f2 (by omega), CO_bo c3 (fun c hc hn => ?_) ⟨by rw [f2 115 (by omega)]; exact h4, fun i (hi : i < n + 1) => ?_⟩, (d1.fr fM (by omega)).blk (fun j _ => by rw [bc 122 (by decide) (by decide)]), (d2.fr fM (by decide)).kept (bk 19 (by decide)) (bc 126 (by decide) (by decide)), RO_bo d3' (fun c hc hn => ?_) (fun q hq hn => bk q hn) ⟨h8, fun i (hi : i < n + 1) => ?_⟩⟩
        · show upN _ _ _ i < t.2.2.1 ∧ upN _ _ _ i < t.1 ∧ upN _ _ _ i ≤ 1
          by_cases e : i = n
          · rw [e, upN_s, upN_s, upN_s]; exact ⟨hp, hq, hz1⟩
          · rw [upN_lt e, upN_lt e, upN_lt e]; exact hcb i (by omega)
        · unfold cC at hc; rw [f2 c (by omega), fM c (by omega)]
        · show _ = nI (upN _ _ _ i) ∧ _ = nI (upN _ _ _ i) ∧ _ = nI (upN _ _ _ i)
          rw [f2 116 (by omega), f2 117 (by omega), f2 118 (by omega), e4, pt_c _ _ (by decide), pt_c _ _ (by decide), pt_c _ _ (by decide), e3, pt_c _ _ (by decide), pt_c _ _ (by decide), e2, pt_c _ _ (by decide), e1]
          by_cases e : i = n
          · rw [e, upN_s, upN_s, upN_s, pt_s, pt_s, pt_s]; exact ⟨rfl, rfl, hzn⟩
          · rw [upN_lt e, upN_lt e, upN_lt e, pt_k _ _ e, pt_k _ _ e, pt_k _ _ e, pt_c _ _ (by decide), pt_c _ _ (by decide), pt_c _ _ (by decide)]; exact c3.2.2.2.2.2.2.2.1.2 i (by omega)
        · unfold cR at hc; exact bc c (by omega) (by omega)
        · show _ = nI (upN _ _ _ i) ∧ _ = nI (upN _ _ _ i) ∧ _ = nI (upN _ _ _ i)
          rw [e8, pt_c _ _ (by decide), e6, e5]
          by_cases e : i = n
          · rw [e, upN_s, upN_s, upN_s, pt_s, pt_k _ _ (by omega), pt_k _ _ (by omega), pt_s, pt_k _ _ (by omega), pt_s]; exact ⟨rfl, rfl, rfl⟩
          · rw [upN_lt e, upN_lt e, upN_lt e, pt_k _ _ (by omega), pt_k _ _ (by omega), pt_k _ _ (by omega), pt_k _ _ (by omega), pt_k _ _ (by omega), pt_k _ _ (by omega), pt_k _ _ (by omega), pt_k _ _ (by omega), pt_k _ _ (by omega), fM 132 (by omega)]; exact d3.2.2.2.2.2.2.2.2 i (by omega)
      refine ⟨fun c5 => fin 0 (by rw [hz0.mp c5]; rfl), fun c5 => fin 1 ?_⟩
      have : zn = 1 := by
        have : zn ≠ 0 := fun e => c5 (hz0.mpr e)
        omega
      rw [this]; rfl
    · have e6 : n = 15 := by
        have : ¬ n < 15 := fun e => c4 (nI_lt (b := 15) e (by decide))
        omega
      exact eX11_write _ _ _ (bX11_write_0 _ _ _ (r_isPerson d3.1 ht (fun _ _ _ => b1 (r_isLayer d3.1 ht (fun _ _ _ => b1 ⟨fun _ => ⟨rfl, hI2⟩, fun c2 => absurd (by rw [hnb, e6]; rfl) c2⟩) (fun hn => absurd ⟨q, hq, rfl⟩ hn))) (fun hn2 => absurd ⟨p, hp, rfl⟩ hn2)))
  · exact eX11_write _ _ _ (bX11_write_0 _ _ _ (r_isPerson d3.1 ht (fun _ _ _ => b1 (r_isLayer d3.1 ht (fun j2 hj2 e3 => absurd ⟨j2, hj2, e3⟩ hn) (fun _ => b0 (bX11_write_16 ⟨rfl, hI2⟩)))) (fun hn2 => absurd ⟨p, hp, e⟩ hn2)))
  · exact eX11_write _ _ _ (bX11_write_0 _ _ _ (r_isPerson d3.1 ht (fun k2 hk2 e2 => absurd ⟨k2, hk2, e2⟩ hn) (fun _ => b0 (bX11_write_16 ⟨rfl, hI2⟩))))
/-- the first of some entries that is otherwise -/
def jF (g : Nat → Bool) : Nat → Nat → Int32
  | _, 0 => -1
  | i, m + 1 => if g i = true then nI i else jF g (i + 1) m
theorem jF_s (g : Nat → Bool) (i m : Nat) : jF g i (m + 1) = if g i = true then nI i else jF g (i + 1) m := rfl
theorem op_judge (hI : IV M) : Cl κ mX10_judge [.ref 0] M (fun r M1 => Cl κ mX11_judge [.ref 119] M1 (fun r' M2 => r = r' ∧ IV M2)) := by
  have hI2 := hI
  obtain ⟨t, s, u, f, a, ht, hs, hu, ho, c1, c2, c3, d1, d2, d3⟩ := hI
  have hP := ht.2.1
  have h9 := ht.n9
  obtain ⟨hc6, hcb⟩ := ho.2.2.2.2.2
  obtain ⟨hC1, hC2⟩ := c3.2.2.2.2.2.2.2.1
  obtain ⟨hR1, hR2⟩ := d3.2.2.2.2.2.2.2
  generalize hN : a.2.2.2.2.2.2.1 = N at *
  obtain ⟨g, hg⟩ : ∃ g : Nat → Bool, ∀ i, g i = decide ((s.2.2.1 (a.2.2.2.2.2.2.2.1 i)).testBit (a.2.2.2.2.2.2.2.2.1 i) ≠ decide (a.2.2.2.2.2.2.2.2.2 i = 1)) := ⟨_, fun _ => rfl⟩
  have hb5 := hs.1.b512 ht
  -- the reference, from the end
  have ref : Cl κ mX11_judge [.ref 119] M (fun r' M2 => jF g 0 N = r' ∧ IV M2) := by
    refine eX11_judge (bX11_judge_0 ?_)
    rintro v1 rfl
    rw [hR1]
    have key : ∀ m, m ≤ N → G κ mX11_judge 9 [.ref 119, .int (jF g m (N - m)), .int (nI m - 1), .null] [] M (fun r' M2 => jF g 0 N = r' ∧ IV M2) := by
      intro m
      induction m with
      | zero =>
        intro _
        exact bX11_judge_9 _ _ ⟨fun _ => ⟨by rw [Nat.sub_zero], hI2⟩, fun c => absurd (by decide) c⟩
      | succ m ih =>
        intro hm
        rw [nI_pred]
        have b := hcb m (by omega)
        have r := hR2 m (by omega)
        refine bX11_judge_9 _ _ ⟨fun c => absurd c (nI_pos (by omega)), fun _ => ?_⟩
        rw [show (3 : Int32) = nI 3 from rfl, pk_mul, nI_1, show (2 : Int32) = nI 2 from rfl, nI_add, tNI (by omega), tNI (by omega), tNI (by omega), r.1, r.2.1]
        refine ⟨vp_in_nI (by omega) (by decide), vp_in_nI (by omega) (by decide), ?_⟩
        have go : ∀ (tb : Bool) (r1 : Int32), (s.2.2.1 (a.2.2.2.2.2.2.2.1 m)).testBit (a.2.2.2.2.2.2.2.2.1 m) = tb → r1 = nI tb.toNat → (vp_in (nI (3 * m + 2)) 45) ∧ ((((M 132 (3 * m + 2)) = 1 → G κ mX11_judge 56 [.ref 119, .int (jF g (m + 1) (N - (m + 1))), .int (nI m), .null] [.int 1, .int r1] M (fun r' M2 => jF g 0 N = r' ∧ IV M2)) ∧ (¬ (M 132 (3 * m + 2)) = 1 → G κ mX11_judge 56 [.ref 119, .int (jF g (m + 1) (N - (m + 1))), .int (nI m), .null] [.int 0, .int r1] M (fun r' M2 => jF g 0 N = r' ∧ IV M2)))) := by
          intro tb r1 htb hr1
          have ih' := ih (by omega)
          rw [show N - m = (N - (m + 1)) + 1 by omega] at ih'
          rw [jF_s, hg, htb] at ih'
          have nm1 : nI m + (-1) = nI m - 1 := by
            apply Int32.toBitVec_inj.mp
            show (nI m).toBitVec + (-1 : Int32).toBitVec = (nI m).toBitVec - (1 : Int32).toBitVec
            rw [BitVec.sub_eq_add_neg]; rfl
          have fin : ∀ (w : Bool), decide (a.2.2.2.2.2.2.2.2.2 m = 1) = w → G κ mX11_judge 56 [.ref 119, .int (jF g (m + 1) (N - (m + 1))), .int (nI m), .null] [.int (nI w.toNat), .int r1] M (fun r' M2 => jF g 0 N = r' ∧ IV M2) := by
            intro w hw
            rw [hw] at ih'
            refine bX11_judge_56 _ _ _ _ ⟨fun c => bX11_judge_64 _ _ ?_, fun c => bX11_judge_64 _ _ ?_⟩
            · rw [nm1]
              have : tb = w := by rw [hr1] at c; cases tb <;> cases w <;> first | rfl | exact absurd c (by decide)
              rw [if_neg (by simp [this])] at ih'
              exact ih'
            · rw [nm1]
              have : tb ≠ w := fun e => c (by rw [hr1, e])
              rw [if_pos (by simp [this])] at ih'
              exact ih'
          refine ⟨vp_in_nI (by omega) (by decide), ?_⟩
          rw [r.2.2]
          refine ⟨fun c => fin true ?_, fun c => fin false ?_⟩
          · have := nI_inj (b := 1) (by omega) (by decide) c
            simp [this]
          · have : a.2.2.2.2.2.2.2.2.2 m ≠ 1 := fun e => c (by rw [e]; rfl)
            simp [this]
        exact r_isOn (by omega) (by omega) d1 hb5 (fun h => go true _ h rfl) (fun h => go false _ h rfl)
    have := key N (Nat.le_refl _)
    rw [Nat.sub_self] at this
    exact this
  refine eX10_judge (bX10_judge_0 (eX0_firstWrong 13 (bX0_firstWrong_0 13 stO_13 ?_)))
  refine up_ind N (fun k => jF g k (N - k) = jF g 0 N → G κ mX0_firstWrong 2 [.ref 115, .ref 13, .int (nI k), .null] [] M (fun r1 M1 => Cl κ mX11_judge [.ref 119] M1 (fun r' M2 => r1 = r' ∧ IV M2))) ?_ ?_ 0 (Nat.zero_le _) rfl
  · intro e
    refine bX0_firstWrong_2 13 stO_13 _ ⟨fun _ => ?_, fun c => absurd (by rw [hC1]; exact Int32.le_refl _) c⟩
    rw [Nat.sub_self] at e
    rw [show (-1 : Int32) = jF g 0 N from e]
    exact ref
  · intro k hk ih e
    have b := hcb k hk
    have r := hC2 k hk
    have p8 : a.2.2.2.2.2.2.2.1 k < 8 := by omega
    rw [show N - k = (N - (k + 1)) + 1 by omega] at e
    rw [jF_s, hg] at e
    refine bX0_firstWrong_2 13 stO_13 _ ⟨fun c => ?_, fun _ => ⟨vp_in_nI (by omega) (by decide), ?_⟩⟩
    · rw [hC1] at c; exact absurd c (nI_ge hk (by omega))
    rw [tNI (by omega), r.1, r.2.1, t8 p8]
    refine ⟨v8 p8, ?_⟩
    rw [(c1.2.2 _ p8).1]
    have hx : s.2.2.1 (a.2.2.2.2.2.2.2.1 k) < 2 ^ 31 := by have := hb5 (a.2.2.2.2.2.2.2.1 k); omega
    have go : ∀ (tb : Bool), (s.2.2.1 (a.2.2.2.2.2.2.2.1 k)).testBit (a.2.2.2.2.2.2.2.2.1 k) = tb → G κ mX0_firstWrong 38 [.ref 115, .ref 13, .int (nI k), .null] [.int (nI tb.toNat)] M (fun r1 M1 => Cl κ mX11_judge [.ref 119] M1 (fun r' M2 => r1 = r' ∧ IV M2)) := by
      intro tb htb
      rw [htb] at e
      refine bX0_firstWrong_38 13 stO_13 _ _ ⟨vp_in_nI (by omega) (by decide), ?_⟩
      rw [tNI (by omega), r.2.2]
      refine ⟨fun c => ?_, fun c => ?_⟩
      · rw [nI_1]
        refine ih ?_
        have e1 := nI_inj (by cases tb <;> decide) (by omega) c
        rw [if_neg (by rw [← e1]; cases tb <;> simp)] at e
        exact e
      · have e1 : tb.toNat ≠ a.2.2.2.2.2.2.2.2.2 k := fun q => c (by rw [q])
        rw [if_pos (by
          have h1 := b.2.2
          cases tb
          · have : a.2.2.2.2.2.2.2.2.2 k = 1 := by simp at e1; omega
            simp [this]
          · have : a.2.2.2.2.2.2.2.2.2 k ≠ 1 := fun q => e1 q.symm
            simp [this])] at e
        rw [e]; exact ref
    refine ⟨fun c => go false ((tb_and hx (by omega)).mp c), fun c => go true ?_⟩
    cases hb : (s.2.2.1 (a.2.2.2.2.2.2.2.1 k)).testBit (a.2.2.2.2.2.2.2.2.1 k) with
    | true => rfl
    | false => exact absurd ((tb_and hx (by omega)).mpr hb) c
end Ops6
