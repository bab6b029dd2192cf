section IsC2
variable {κ : gK} {M : MM} {Q : Int32 → MM → Prop} {t : TW} {a : A3}
theorem akF_le (n : Nat) (a : A3) (light m j : Nat) : akF n a light m j ≤ j := cntF_le _ j
theorem akF_s (n : Nat) (a : A3) (light m j : Nat) : akF n a light m (j + 1) = if soF n a j = true ∧ pmF n j light = m then akF n a light m j + 1 else akF n a light m j := by
  unfold akF
  rw [cntF_s]
  by_cases h : soF n a j = true ∧ pmF n j light = m
  · rw [if_pos h, if_pos (by rw [h.1, h.2]; simp)]
  · rw [if_neg h, if_neg (fun e => h (by simpa using e))]
theorem akF_no {n : Nat} {light j : Nat} (h : soF n a j = false) (m : Nat) : akF n a light m (j + 1) = akF n a light m j := by
  rw [akF_s, if_neg (fun e => by rw [h] at e; exact absurd e.1 (by decide))]
theorem akF_yes {n : Nat} {light j : Nat} (h : soF n a j = true) : (fun m => akF n a light m (j + 1)) = upN (fun m => akF n a light m j) (pmF n j light) (akF n a light (pmF n j light) j + 1) := by
  funext m
  show akF n a light m (j + 1) = if _ then _ else _
  rw [akF_s]
  by_cases e : m = pmF n j light
  · rw [if_pos e, if_pos ⟨h, e.symm⟩, e]
  · rw [if_neg e, if_neg (fun q => e q.2.symm)]
theorem akF_next {n light m : Nat} {i : Nat} (hi : i < 3) : akF n a light m (10 * kdL i + 10) = akF n a light m (if i + 1 = 3 then 40 else 10 * kdL (i + 1)) := by
  match i, hi with
  | 0, _ => rfl
  | 1, _ => exact (cntF_skip _ (k := 20) (m := 30) (by decide) (fun j h1 h2 => by rw [soF_20 n a j h1 h2]; rfl)).symm
  | 2, _ => rfl
theorem ShC.fr {M M' : MM} (h : ShC M a) (hf : fr 108 109 M M') : ShC M' a := by
  unfold ShC at *
  rw [hf 105 (by omega), hf 106 (by omega), hf 107 (by omega)]; exact h
theorem maxF_0 (f : Nat → Nat) (n : Nat) (h : ∀ m, m < n → f m = 0) : maxF f n = 0 := Nat.le_zero.mp (maxF_le f 0 n (fun m hm => by rw [h m hm]; exact Nat.le_refl _))
theorem s_greatestPart {light : Nat} (hT : Tw M 1 t) (ht : twOk t) (hn : 2 ≤ t.1) (hS : ShC M a) (hc : a.1 ≤ 6) (hb : ∀ i, i < a.1 → 1 ≤ a.2.1 i ∧ a.2.1 i ≤ 9 ∧ a.2.2 i < t.1) (hl : light < 2 ^ 31) (h : ∀ M', fr 108 109 M M' → Q (nI (gpF t.1 a light)) M') : Cl κ mX6_greatestPart [.ref 105, .ref 1, .int (nI light)] M Q := by
  have h9 := ht.n9
  refine eX6_greatestPart 1 _ (bX6_greatestPart_0 1 twO_1 _ ?_)
  have two : ∀ M1, fr 108 109 M M1 → (∀ m, m < 9 → M1 108 m = nI 0) → G κ mX6_greatestPart 36 [.ref 105, .ref 1, .int (nI light), .int 0, .ref 999, .int 3, .int 0, .null, .null, .null] [] M1 Q := by
    intro M0 f0 z0
    have key := up_ind 3 (fun i => ∀ M1, fr 108 109 M M1 → (∀ m, m < 9 → M1 108 m = nI (akF t.1 a light m (if i = 3 then 40 else 10 * kdL i))) → G κ mX6_greatestPart 36 [.ref 105, .ref 1, .int (nI light), .int (nI (maxF (fun m => akF t.1 a light m (if i = 3 then 40 else 10 * kdL i)) 9)), .ref 999, .int 3, .int (nI i), .null, .null, .null] [] M1 Q) ?_ ?_ 0 (by decide) M0 f0 z0
    · have e : maxF (fun m => akF t.1 a light m (if 0 = 3 then 40 else 10 * kdL 0)) 9 = 0 := maxF_0 _ _ (fun m _ => rfl)
      rw [e] at key
      exact key
    · intro M1 f1 _
      exact bX6_greatestPart_36 1 twO_1 _ _ _ _ ⟨fun _ => h M1 f1, fun c => absurd (by decide) c⟩
    · intro i hi ih M1 f1 z1
      refine bX6_greatestPart_36 1 twO_1 _ _ _ _ ⟨fun c => absurd c (nI_ge (b := 3) hi (by decide)), fun _ => ⟨vp_in_nI hi (by decide), ?_⟩⟩
      rintro v1 rfl
      rw [if_neg (by omega)] at z1
      rw [kd_get hi, if_neg (by omega)]
      have hkd : kdL i ≤ 3 := by unfold kdL; split <;> omega
      refine up_ind 10 (fun e => ∀ M1, fr 108 109 M M1 → (∀ m, m < 9 → M1 108 m = nI (akF t.1 a light m (10 * kdL i + e))) → G κ mX6_greatestPart 53 [.ref 105, .ref 1, .int (nI light), .int (nI (maxF (fun m => akF t.1 a light m (10 * kdL i + e)) 9)), .ref 999, .int 3, .int (nI i), .int (nI (kdL i)), .int (nI e), .null] [] M1 Q) ?_ ?_ 0 (by decide) M1 f1 z1
      · intro M2 f2 z2
        refine bX6_greatestPart_53 1 twO_1 _ _ _ _ _ _ ⟨fun _ => ?_, fun c => absurd (by decide) c⟩
        rw [nI_1]
        have e : (fun m => akF t.1 a light m (10 * kdL i + 10)) = (fun m => akF t.1 a light m (if i + 1 = 3 then 40 else 10 * kdL (i + 1))) := funext (fun m => akF_next hi)
        rw [e]
        exact ih M2 f2 (fun m hm => by rw [z2 m hm, akF_next hi])
      · intro e he ih2 M2 f2 z2
        have T2 := hT.fr f2 (by omega)
        have S2 := hS.fr f2
        refine bX6_greatestPart_53 1 twO_1 _ _ _ _ _ _ ⟨fun c => ?_, fun _ => s_fits T2 ht hn S2 hc hb (by omega) (by omega) (fun hf => b1 ?_) (fun hf => b0 (bX6_greatestPart_107 1 twO_1 _ _ _ _ _ _ ?_))⟩
        · have := (nI_ltI (a := 9) (by decide) (by omega)).mp c
          omega
        · refine s_moveOf T2 ht (by omega) (by omega) hl ?_
          have hm : mvF t.1 (kdL i) e light < t.1 := mvF_lt hn
          have hpm : pmF t.1 (10 * kdL i + e) light = mvF t.1 (kdL i) e light := by
            unfold pmF
            rw [show (10 * kdL i + e) / 10 = kdL i by omega, show (10 * kdL i + e) % 10 = e by omega]
          have hso : soF t.1 a (10 * kdL i + e) = true := by rw [so_pair hi he]; exact hf
          have hy := akF_yes (light := light) hso
          rw [hpm] at hy
          generalize mvF t.1 (kdL i) e light = m0 at *
          have hak := akF_le t.1 a light m0 (10 * kdL i + e)
          refine ⟨vp_in_nI (by omega) (by decide), ?_⟩
          rw [tNI (by omega), z2 m0 (by omega), nI_1]
          rintro M3 e3 v4 e4
          have q3 : M3 108 m0 = nI (akF t.1 a light m0 (10 * kdL i + e) + 1) := by rw [e3, pt_s]
          have hmx : maxF (fun m => akF t.1 a light m (10 * kdL i + e)) 9 ≤ 40 := maxF_le _ _ _ (fun m _ => Nat.le_trans (akF_le t.1 a light m _) (by omega))
          rw [q3, jmax_nI (by omega) (by omega)] at e4
          have hu := maxF_up (f := fun m => akF t.1 a light m (10 * kdL i + e)) (n := 9) (m0 := m0) (by omega)
          rw [← hy] at hu
          have hu2 : maxF (fun m => akF t.1 a light m (10 * kdL i + (e + 1))) 9 = max (maxF (fun m => akF t.1 a light m (10 * kdL i + e)) 9) (akF t.1 a light m0 (10 * kdL i + e) + 1) := hu
          rw [← hu2] at e4
          subst e4
          refine bX6_greatestPart_107 1 twO_1 _ _ _ _ _ _ ?_
          rw [nI_1]
          refine ih2 M3 (by rw [e3]; exact f2.pt (by omega) (by omega)) (fun m hm2 => ?_)
          have hy2 : akF t.1 a light m (10 * kdL i + (e + 1)) = upN (fun m => akF t.1 a light m (10 * kdL i + e)) m0 (akF t.1 a light m0 (10 * kdL i + e) + 1) m := congrFun hy m
          rw [hy2]
          by_cases q : m = m0
          · rw [q, q3, upN_s]
          · rw [upN_lt q, e3, pt_k _ _ q, z2 m hm2]
        · have hso : soF t.1 a (10 * kdL i + e) = false := by rw [so_pair hi he]; exact hf
          have hy : ∀ m, akF t.1 a light m (10 * kdL i + (e + 1)) = akF t.1 a light m (10 * kdL i + e) := fun m => akF_no hso m
          have hy2 : (fun m => akF t.1 a light m (10 * kdL i + (e + 1))) = (fun m => akF t.1 a light m (10 * kdL i + e)) := funext hy
          rw [nI_1]
          have ih3 := ih2 M2 f2 (fun m hm2 => by rw [hy m]; exact z2 m hm2)
          rw [hy2] at ih3
          exact ih3
  refine up_ind 9 (fun k => ∀ M1, fr 108 109 M M1 → (∀ m, m < k → M1 108 m = nI 0) → G κ mX6_greatestPart 2 [.ref 105, .ref 1, .int (nI light), .int (nI k), .null, .null, .null, .null, .null, .null] [] M1 Q) ?_ ?_ 0 (by decide) M fr.rf (fun m hm => absurd hm (by omega))
  · intro M1 f1 z1
    exact bX6_greatestPart_2 1 twO_1 _ _ ⟨fun _ => two M1 f1 z1, fun c => absurd (by decide) c⟩
  · intro k hk ih M1 f1 z1
    refine bX6_greatestPart_2 1 twO_1 _ _ ⟨fun c => absurd c (nI_ge (b := 9) hk (by decide)), fun _ => ⟨vp_in_nI hk (by decide), ?_⟩⟩
    rintro M2 e2
    rw [tNI (by omega)] at e2
    rw [nI_1]
    refine ih M2 (by rw [e2]; exact f1.pt (by omega) (by omega)) (fun m hm => ?_)
    by_cases q : m = k
    · rw [q, e2, pt_s]; rfl
    · rw [e2, pt_k _ _ q]; exact z1 m (by omega)
theorem gpF_le (n : Nat) (a : A3) (light : Nat) : gpF n a light ≤ 40 := maxF_le _ _ _ (fun m _ => akF_le n a light m 40)
theorem wtF_le (gp : Nat → Nat) (all : Nat) (ha : all ≤ 40) (hg : ∀ l, gp l ≤ 40) : ∀ k, (wtF gp all k).2 ≤ 40 := by
  intro k
  induction k with
  | zero => exact ha
  | succ k ih => rw [wtF_s]; split; exact hg _; exact ih
theorem s_lightToWatch (hT : Tw M 1 t) (ht : twOk t) (hn : 2 ≤ t.1) (hS : ShC M a) (hc : a.1 ≤ 6) (hb : ∀ i, i < a.1 → 1 ≤ a.2.1 i ∧ a.2.1 i ≤ 9 ∧ a.2.2 i < t.1) (h : ∀ M', fr 108 109 M M' → Q (wtF (gpF t.1 a) (cntF (soF t.1 a) 40) 9).1 M') : Cl κ mX6_lightToWatch [.ref 105, .ref 1] M Q := by
  have hw := wtF_le (gpF t.1 a) (cntF (soF t.1 a) 40) (cntF_le _ _) (gpF_le t.1 a)
  refine eX6_lightToWatch 1 (bX6_lightToWatch_0 1 twO_1 (s_howManyFit hT ht hn hS hc hb ?_))
  refine up_ind 9 (fun k => ∀ M1, fr 108 109 M M1 → G κ mX6_lightToWatch 11 [.ref 105, .ref 1, .int (wtF (gpF t.1 a) (cntF (soF t.1 a) 40) k).1, .int (nI (wtF (gpF t.1 a) (cntF (soF t.1 a) 40) k).2), .int (nI (k + 1)), .null] [] M1 Q) ?_ ?_ 0 (by decide) M fr.rf
  · intro M1 f1
    exact bX6_lightToWatch_11 1 twO_1 _ _ _ ⟨fun _ => h M1 f1, fun c => absurd (by decide) c⟩
  · intro k hk ih M1 f1
    refine bX6_lightToWatch_11 1 twO_1 _ _ _ ⟨fun c => ?_, fun _ => s_greatestPart (hT.fr f1 (by omega)) ht hn (hS.fr f1) hc hb (by omega) (fun M2 f2 => ?_)⟩
    · have := (nI_ltI (a := 9) (by decide) (by omega)).mp c
      omega
    have ih := ih M2 (f1.tr f2)
    rw [wtF_s] at ih
    have g40 := gpF_le t.1 a (k + 1)
    have w40 := hw k
    refine ⟨fun c => bX6_lightToWatch_39 1 twO_1 _ _ _ ?_, fun c => bX6_lightToWatch_39 1 twO_1 _ _ _ ?_⟩
    · rw [if_neg (by have := (nI_leI (by omega) (by omega)).mp c; omega)] at ih
      rw [nI_1]; exact ih
    · rw [if_pos (by
        rcases Nat.lt_or_ge (gpF t.1 a (k + 1)) (wtF (gpF t.1 a) (cntF (soF t.1 a) 40) k).2 with q | q
        · exact q
        · exact absurd (nI_le q (by omega)) c)] at ih
      rw [nI_1]; exact ih
end IsC2
section IsR
variable {κ : gK} {M : MM} {Q : Int32 → MM → Prop} {t : TW} {a : A3}
theorem r_goes {j light : Nat} (hT : TwR M t) (ht : twOk t) (hn : 2 ≤ t.1) (hj : j < 40) (hj2 : j / 10 ≠ 2) (hl : light < 2 ^ 31) (h : Q (nI (pmF t.1 j light)) M) : Cl κ mX11_goes [.ref 119, .int (nI j), .int (nI light)] M Q := by
  have h9 := ht.n9
  have e10 : nI j / 10 = nI (j / 10) := pk_div (d := 10) (by omega) (by decide) (by decide)
  have fin : ∀ x : Nat, x < 2 ^ 31 → (strd t.1 (j / 10) = x % t.1) → G κ mX11_goes 29 [.ref 119, .int (nI j), .int (nI light), .null] [.int (nI x)] M Q := by
    intro x hx hs
    have e : irm (nI j) 10 = nI (j % 10) := irm_nI (d := 10) (by omega) (by decide) (by decide)
    refine bX11_goes_29 _ _ _ ?_
    rw [e, hT.1]
    unfold pmF mvF at h
    refine ⟨fun c => bX11_goes_48 _ ?_, fun c => ⟨nI_ne0 (by omega) (by omega), bX11_goes_48 _ ?_⟩⟩
    · rw [if_pos ((nI_ltI (by omega) hl).mp c)] at h
      exact h
    · rw [if_neg (fun q => c (nI_lt q hl))] at h
      rw [irm_nI hx (by omega) (by omega), ← hs]
      exact h
  refine eX11_goes _ _ (bX11_goes_0 _ _ ?_)
  rw [e10]
  refine ⟨fun c => fin 1 (by decide) ?_, fun c => ⟨fun c2 => fin 2 (by decide) ?_, fun c2 => ?_⟩⟩
  · have : j / 10 = 0 := nI_inj (b := 0) (by omega) (by decide) c
    unfold strd
    rw [this, if_neg (by omega), if_neg (by decide), if_neg (by decide), Nat.mod_eq_of_lt (by omega)]
  · have : j / 10 = 1 := nI_inj (b := 1) (by omega) (by decide) c2
    unfold strd
    rw [this, if_neg (by omega), if_pos rfl]
  · have h0 : j / 10 ≠ 0 := fun e => c (by rw [e]; rfl)
    have h1 : j / 10 ≠ 1 := fun e => c2 (by rw [e]; rfl)
    have h3 : j / 10 = 3 := by omega
    rw [hT.1, show (1 : Int32) = nI 1 from rfl, pk_sub (by omega)]
    refine fin (t.1 - 1) (by omega) ?_
    unfold strd
    rw [h3, if_neg (by omega), if_neg (by decide), if_pos rfl, Nat.mod_eq_of_lt (by omega)]
theorem r_isSo {j : Nat} (hT : TwR M t) (ht : twOk t) (hn : 2 ≤ t.1) (hS : ShR M a) (hc : a.1 ≤ 6) (hb : ∀ i, i < a.1 → 1 ≤ a.2.1 i ∧ a.2.1 i ≤ 9 ∧ a.2.2 i < t.1) (hj : j < 40) (h1 : soF t.1 a j = true → Q 1 M) (h0 : soF t.1 a j = false → Q 0 M) : Cl κ mX11_isSo [.ref 119, .int (nI j)] M Q := by
  have h9 := ht.n9
  have e10 : nI j / 10 = nI (j / 10) := pk_div (d := 10) (by omega) (by decide) (by decide)
  have no : soF t.1 a j = false → ∀ k, k ≤ a.1 → G κ mX11_isSo 16 [.ref 119, .int (nI j), .int 0, .int (nI k)] [] M Q := by
    intro hf
    refine up_ind a.1 (fun k => G κ mX11_isSo 16 [.ref 119, .int (nI j), .int 0, .int (nI k)] [] M Q) ?_ ?_
    · exact bX11_isSo_16 _ _ _ ⟨fun _ => ⟨.inl rfl, h0 hf⟩, fun c => absurd (by rw [hS.1]; exact Int32.le_refl _) c⟩
    · intro k hk ih
      refine bX11_isSo_16 _ _ _ ⟨fun c => ?_, fun _ => b0 (bX11_isSo_58 _ _ (bX11_isSo_59 _ _ _ ?_))⟩
      · rw [hS.1] at c; exact absurd c (nI_ge hk (by omega))
      · rw [nI_1]; exact ih
  refine eX11_isSo _ (bX11_isSo_0 _ ?_)
  rw [e10]
  refine ⟨fun c => bX11_isSo_13 _ _ (no ?_ 0 (Nat.zero_le _)), fun c => bX11_isSo_13 _ _ ?_⟩
  · have : j / 10 = 2 := nI_inj (b := 2) (by omega) (by decide) c
    unfold soF
    rw [this]; rfl
  have hj2 : j / 10 ≠ 2 := fun e => c (by rw [e]; rfl)
  refine up_ind a.1 (fun k => (∀ i, i < k → pmF t.1 j (a.2.1 i) = a.2.2 i) → G κ mX11_isSo 16 [.ref 119, .int (nI j), .int 1, .int (nI k)] [] M Q) ?_ ?_ 0 (Nat.zero_le _) (fun i hi => absurd hi (by omega))
  · intro e
    refine bX11_isSo_16 _ _ _ ⟨fun _ => ⟨.inr rfl, h1 ?_⟩, fun c => absurd (by rw [hS.1]; exact Int32.le_refl _) c⟩
    unfold soF fitF
    rw [Bool.and_eq_true, List.all_eq_true]
    refine ⟨decide_eq_true hj2, fun i hi => decide_eq_true (e i (List.mem_range.mp hi))⟩
  · intro k hk ih e
    have b := hb k hk
    refine bX11_isSo_16 _ _ _ ⟨fun c => ?_, fun _ => b1 ?_⟩
    · rw [hS.1] at c; exact absurd c (nI_ge hk (by omega))
    rw [show (2 : Int32) = nI 2 from rfl, pk_mul, nI_1, tNI (by omega), tNI (by omega), (hS.2 k hk).1]
    refine ⟨vp_in_nI (by omega) (by decide), r_goes hT ht hn hj hj2 (by omega) ⟨vp_in_nI (by omega) (by decide), ?_⟩⟩
    rw [(hS.2 k hk).2]
    have hm : pmF t.1 j (a.2.1 k) < t.1 := mvF_lt hn
    refine ⟨fun c => bX11_isSo_59 _ _ _ ?_, fun c => bX11_isSo_58 _ _ (bX11_isSo_59 _ _ _ ?_)⟩
    · rw [nI_1]
      refine ih (fun i hi => ?_)
      by_cases q : i = k
      · subst q; exact nI_inj (by omega) (by omega) c
      · exact e i (by omega)
    · rw [nI_1]
      refine no ?_ (k + 1) hk
      cases hf : soF t.1 a j with
      | false => rfl
      | true =>
        unfold soF fitF at hf
        rw [Bool.and_eq_true, List.all_eq_true] at hf
        have := hf.2 k (List.mem_range.mpr hk)
        simp only [decide_eq_true_eq] at this
        exact absurd (by unfold pmF; rw [this]) c
end IsR
