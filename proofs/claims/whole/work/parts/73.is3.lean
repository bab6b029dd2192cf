section IsR2
variable {κ : gK} {M : MM} {Q : Int32 → MM → Prop} {t : TW} {a : A3}
theorem maxF_cut (f : Nat → Nat) {n N : Nat} (h : n ≤ N) (hz : ∀ m, n ≤ m → f m = 0) : maxF f N = maxF f n := by
  obtain ⟨j, rfl⟩ : ∃ j, N = n + j := ⟨N - n, by omega⟩
  induction j with
  | zero => rfl
  | succ j ih =>
    show max (maxF f (n + j)) (f (n + j)) = _
    rw [hz (n + j) (by omega), ih (by omega)]
    exact Nat.max_eq_left (Nat.zero_le _)
theorem maxF_s (f : Nat → Nat) (k : Nat) : maxF f (k + 1) = max (maxF f k) (f k) := rfl
theorem akF_none {n light m : Nat} (hn : 2 ≤ n) (hm : n ≤ m) : ∀ j, akF n a light m j = 0 := by
  intro j
  induction j with
  | zero => rfl
  | succ j ih =>
    rw [akF_s, if_neg, ih]
    rintro ⟨_, e⟩
    have : pmF n j light < n := mvF_lt hn
    omega
theorem r_watch (hT : TwR M t) (ht : twOk t) (hn : 2 ≤ t.1) (hS : ShR M a) (hc : a.1 ≤ 6) (hb : ∀ i, i < a.1 → 1 ≤ a.2.1 i ∧ a.2.1 i ≤ 9 ∧ a.2.2 i < t.1) (h : Q (wtF (gpF t.1 a) (cntF (soF t.1 a) 40) 9).1 M) : Cl κ mX11_watch [.ref 119] M Q := by
  have h9 := ht.n9
  have hw := wtF_le (gpF t.1 a) (cntF (soF t.1 a) 40) (cntF_le _ _) (gpF_le t.1 a)
  have lights : ∀ k, k ≤ 9 → G κ mX11_watch 39 [.ref 119, .int (wtF (gpF t.1 a) (cntF (soF t.1 a) 40) k).1, .null, .int (nI (wtF (gpF t.1 a) (cntF (soF t.1 a) 40) k).2), .int (nI (k + 1)), .null, .null, .null, .null] [] M Q := by
    refine up_ind 9 (fun k => G κ mX11_watch 39 [.ref 119, .int (wtF (gpF t.1 a) (cntF (soF t.1 a) 40) k).1, .null, .int (nI (wtF (gpF t.1 a) (cntF (soF t.1 a) 40) k).2), .int (nI (k + 1)), .null, .null, .null, .null] [] M Q) ?_ ?_
    · exact bX11_watch_39 _ _ _ ⟨fun _ => h, fun c => absurd (by decide) c⟩
    · intro k hk ih
      rw [wtF_s] at ih
      have w40 := hw k
      have g40 := gpF_le t.1 a (k + 1)
      have hg : gpF t.1 a (k + 1) = maxF (fun m => akF t.1 a (k + 1) m 40) t.1 := maxF_cut _ h9 (fun m hm => akF_none hn hm 40)
      generalize wtF (gpF t.1 a) (cntF (soF t.1 a) 40) k = w at *
      refine bX11_watch_39 _ _ _ ⟨fun c => absurd c (nI_ge (a := k + 1) (b := 10) (by omega) (by decide)), fun _ => ?_⟩
      refine up_ind t.1 (fun m => G κ mX11_watch 52 [.ref 119, .int w.1, .null, .int (nI w.2), .int (nI (k + 1)), .int (nI (maxF (fun m => akF t.1 a (k + 1) m 40) m)), .int (nI m), .null, .null] [] M Q) ?_ ?_ 0 (Nat.zero_le _)
      · rw [← hg]
        refine bX11_watch_52 _ _ _ _ _ ⟨fun _ => ⟨fun c => bX11_watch_146 _ _ _ _ ⟨fun _ => bX11_watch_159 _ _ _ ?_, fun c2 => absurd c c2⟩, fun c => bX11_watch_146 _ _ _ _ ⟨fun c2 => absurd c2 c, fun _ => bX11_watch_159 _ _ _ ?_⟩⟩, fun c => absurd (by rw [hT.1]; exact Int32.le_refl _) c⟩
        · rw [if_neg (by have := (nI_leI (by omega) (by omega)).mp c; omega)] at ih
          rw [nI_1]; exact ih
        · rw [if_pos (by
            rcases Nat.lt_or_ge (gpF t.1 a (k + 1)) w.2 with q | q
            · exact q
            · exact absurd (nI_le q (by omega)) c)] at ih
          rw [nI_1]; exact ih
      · intro m hm ih2
        rw [maxF_s] at ih2
        have m40 : maxF (fun m => akF t.1 a (k + 1) m 40) m ≤ 40 := maxF_le _ _ _ (fun m _ => akF_le t.1 a (k + 1) m 40)
        have a40 := akF_le t.1 a (k + 1) m 40
        generalize maxF (fun m => akF t.1 a (k + 1) m 40) m = mx at *
        refine bX11_watch_52 _ _ _ _ _ ⟨fun c => absurd (by rw [hT.1] at c; exact c) (nI_ge hm (by omega)), fun _ => ?_⟩
        refine up_ind 40 (fun j => G κ mX11_watch 67 [.ref 119, .int w.1, .null, .int (nI w.2), .int (nI (k + 1)), .int (nI mx), .int (nI m), .int (nI (akF t.1 a (k + 1) m j)), .int (nI j)] [] M Q) ?_ ?_ 0 (by decide)
        · refine bX11_watch_67 _ _ _ _ _ _ _ ⟨fun _ => ⟨fun c => bX11_watch_126 _ _ _ _ _ ?_, fun c => bX11_watch_126 _ _ _ _ _ ?_⟩, fun c => absurd (by decide) c⟩
          · have c := (nI_leI (by omega) (by omega)).mp c
            have ih2 : G κ mX11_watch 52 [.ref 119, .int w.1, .null, .int (nI w.2), .int (nI (k + 1)), .int (nI (max mx (akF t.1 a (k + 1) m 40))), .int (nI (m + 1)), .null, .null] [] M Q := ih2
            rw [Nat.max_eq_left c] at ih2
            rw [nI_1]; exact ih2
          · have c : mx ≤ akF t.1 a (k + 1) m 40 := by
              rcases Nat.lt_or_ge mx (akF t.1 a (k + 1) m 40) with q | q
              · omega
              · exact absurd (nI_le q (by omega)) c
            have ih2 : G κ mX11_watch 52 [.ref 119, .int w.1, .null, .int (nI w.2), .int (nI (k + 1)), .int (nI (max mx (akF t.1 a (k + 1) m 40))), .int (nI (m + 1)), .null, .null] [] M Q := ih2
            rw [Nat.max_eq_right c] at ih2
            rw [nI_1]; exact ih2
        · intro j hj ih3
          rw [akF_s] at ih3
          refine bX11_watch_67 _ _ _ _ _ _ _ ⟨fun c => absurd c (nI_ge (b := 40) hj (by decide)), fun _ => r_isSo hT ht hn hS hc hb hj (fun hs => b1 ?_) (fun hs => b0 (bX11_watch_102 _ _ _ _ _ _ _ (bX11_watch_103 _ _ _ _ _ _ _ _ ?_)))⟩
          · have hj2 : j / 10 ≠ 2 := by
              intro e
              unfold soF at hs
              rw [e] at hs
              exact absurd hs (by simp)
            refine r_goes hT ht hn hj hj2 (by omega) ?_
            have hp : pmF t.1 j (k + 1) < t.1 := mvF_lt hn
            refine ⟨fun c => bX11_watch_103 _ _ _ _ _ _ _ _ ?_, fun c => bX11_watch_102 _ _ _ _ _ _ _ (bX11_watch_103 _ _ _ _ _ _ _ _ ?_)⟩
            · rw [if_pos ⟨hs, nI_inj (by omega) (by omega) c⟩] at ih3
              rw [nI_1, nI_1]; exact ih3
            · rw [if_neg (fun q => c (by rw [q.2]))] at ih3
              rw [nI_1, show (0 : Int32) = nI 0 from rfl, nI_add, Nat.add_zero]; exact ih3
          · rw [if_neg (fun q => by rw [hs] at q; exact absurd q.1 (by decide))] at ih3
            rw [nI_1, show (0 : Int32) = nI 0 from rfl, nI_add, Nat.add_zero]; exact ih3
  refine eX11_watch (bX11_watch_0 ?_)
  refine up_ind 40 (fun j => G κ mX11_watch 6 [.ref 119, .int (-1), .int (nI (cntF (soF t.1 a) j)), .int (nI j), .null, .null, .null, .null, .null] [] M Q) ?_ ?_ 0 (by decide)
  · exact bX11_watch_6 _ _ _ ⟨fun _ => lights 0 (by decide), fun c => absurd (by decide) c⟩
  · intro j hj ih
    rw [cntF_s] at ih
    refine bX11_watch_6 _ _ _ ⟨fun c => absurd c (nI_ge (b := 40) hj (by decide)), fun _ => r_isSo hT ht hn hS hc hb hj (fun hs => b1 (bX11_watch_26 _ _ _ _ ?_)) (fun hs => b0 (bX11_watch_26 _ _ _ _ ?_))⟩
    · rw [if_pos hs] at ih
      rw [nI_1, nI_1]; exact ih
    · rw [if_neg (by rw [hs]; decide)] at ih
      rw [nI_1, show (0 : Int32) = nI 0 from rfl, nI_add, Nat.add_zero]; exact ih
/-- the pairs from j on: how many, and the first -/
theorem r_is {x : Nat} (hx : x ≤ 2) (hT : TwR M t) (ht : twOk t) (hn : 2 ≤ t.1) (hS : ShR M a) (hc : a.1 ≤ 6) (hb : ∀ i, i < a.1 → 1 ≤ a.2.1 i ∧ a.2.1 i ≤ 9 ∧ a.2.2 i < t.1) (h : Q (if x = 0 then nI (cntF (soF t.1 a) 40) else if x = 1 then jF (soF t.1 a) 0 40 else (wtF (gpF t.1 a) (cntF (soF t.1 a) 40) 9).1) M) : Cl κ mX11_is [.ref 119, .int (nI x)] M Q := by
  refine eX11_is _ (bX11_is_0 _ (r_inN 0 2 rfl rfl (by decide) (fun _ _ _ _ => b1 (r_isTown hT ht (fun _ => b1 ⟨fun c => ?_, fun c => ?_⟩) (fun z => absurd z (by omega)))) (fun q => absurd ⟨x, Nat.zero_le _, hx, rfl⟩ q)))
  · have : x = 2 := nI_inj (b := 2) (by omega) (by decide) c
    rw [if_neg (by omega), if_neg (by omega)] at h
    exact r_watch hT ht hn hS hc hb h
  · have hx2 : x ≠ 2 := fun e => c (by rw [e]; rfl)
    have last : G κ mX11_is 43 [.ref 119, .int (nI x), .int (nI (cntF (soF t.1 a) 40)), .int (jF (soF t.1 a) 0 40), .int (-1)] [] M Q := by
      refine bX11_is_43 _ _ _ _ ⟨fun _ => ⟨fun c => bX11_is_96 _ ?_, fun c => bX11_is_96 _ ?_⟩, fun c => absurd (by decide) c⟩
      · rw [if_pos (nI_inj (b := 0) (by omega) (by decide) c)] at h; exact h
      · have : x ≠ 0 := fun e => c (by rw [e]; rfl)
        rw [if_neg this, if_pos (by omega)] at h; exact h
    have step : ∀ m c f, m < 40 → f = jF (soF t.1 a) (m + 1) (40 - (m + 1)) → (G κ mX11_is 43 [.ref 119, .int (nI x), .int (nI (if soF t.1 a m = true then c + 1 else c)), .int (jF (soF t.1 a) m (40 - m)), .int (nI m + -1)] [] M Q) → G κ mX11_is 43 [.ref 119, .int (nI x), .int (nI c), .int f, .int (nI m)] [] M Q := by
      intro m c f hm hf k
      rw [show 40 - m = (40 - (m + 1)) + 1 by omega, jF_s, ← hf] at k
      refine bX11_is_43 _ _ _ _ ⟨fun c => absurd c (nI_pos (by omega)), fun _ => r_isSo hT ht hn hS hc hb hm (fun hs => b1 (bX11_is_63 _ _ _ _ _ (r_isSo hT ht hn hS hc hb hm (fun _ => b1 (bX11_is_80 _ _ _ _ ?_)) (fun h0 => absurd (hs.symm.trans h0) (by decide))))) (fun hs => b0 (bX11_is_63 _ _ _ _ _ (r_isSo hT ht hn hS hc hb hm (fun h0 => absurd (hs.symm.trans h0) (by decide)) (fun _ => b0 (bX11_is_80 _ _ _ _ ?_)))))⟩
      · rw [if_pos hs, if_pos hs] at k
        rw [nI_1]; exact k
      · rw [if_neg (by rw [hs]; decide), if_neg (by rw [hs]; decide)] at k
        rw [show (0 : Int32) = nI 0 from rfl, nI_add, Nat.add_zero]; exact k
    have all : ∀ m, m ≤ 39 → ∀ c, c + cntF (soF t.1 a) (m + 1) = cntF (soF t.1 a) 40 → G κ mX11_is 43 [.ref 119, .int (nI x), .int (nI c), .int (jF (soF t.1 a) (m + 1) (40 - (m + 1))), .int (nI m)] [] M Q := by
      intro m
      induction m with
      | zero =>
        intro _ c hc2
        refine step 0 c _ (by decide) rfl ?_
        have e : (if soF t.1 a 0 = true then c + 1 else c) = cntF (soF t.1 a) 40 := by
          rw [← hc2, cntF_s]
          show _ = c + (if soF t.1 a 0 = true then 0 + 1 else 0)
          split <;> omega
        rw [e]
        exact last
      | succ m ih =>
        intro hm c hc2
        refine step (m + 1) c _ (by omega) rfl ?_
        rw [pk_m1]
        refine ih (by omega) _ ?_
        rw [cntF_s] at hc2
        rw [← hc2]
        split <;> omega
    exact all 39 (by decide) 0 (Nat.zero_add _)
theorem op_is (hI : IV M) (x : Int32) : Cl κ mX10_is [.ref 0, .int x] M (fun r M1 => Cl κ mX11_is [.ref 119, .int x] M1 (fun r' M2 => r = r' ∧ IV M2)) := by
  have hI2 := hI
  obtain ⟨t, s, u, f, a, ht, hs, hu, ho, c1, c2, c3, d1, d2, d3⟩ := hI
  have no : (¬ ∃ k, 0 ≤ k ∧ k ≤ 2 ∧ x = nI k) → G κ mX10_is 9 [.null, .null] [] M (fun r M1 => Cl κ mX11_is [.ref 119, .int x] M1 (fun r' M2 => r = r' ∧ IV M2)) := fun hn =>
    bX10_is_9 (eX11_is _ (bX11_is_0 _ (r_inN 0 2 rfl rfl (by decide) (fun j k1 k2 e => absurd ⟨j, k1, k2, e⟩ hn) (fun _ => b0 ⟨rfl, hI2⟩))))
  refine eX10_is _ (bX10_is_0 _ ⟨fun c => no (rg_lo (a := 0) (by decide) (by decide) c), fun c => ⟨fun c' => ?_, fun c' => no (rg_hi (by decide) c')⟩⟩)
  obtain ⟨k, k1, k2, rfl⟩ := rg_in (a := 0) (b := 2) (by decide) (by decide) c c'
  obtain ⟨o1, o2⟩ := ho.2.2.2.1
  have cS : ShC M a.2.2.2.2.1 := c3.2.2.2.2.2.1
  have dS : ShR M a.2.2.2.2.1 := d3.2.2.2.2.2.1
  refine s_isThere twO_1 c3.1 ht (fun hn => b1 ⟨fun c => ?_, fun c => ?_, fun c => ?_⟩) (fun hz => b0 ?_)
  · have e : k = 0 := nI_inj (b := 0) (by omega) (by decide) c
    refine s_howManyFit c3.1 ht hn cS o1 o2 (r_is k2 d3.1 ht hn dS o1 o2 ⟨?_, hI2⟩)
    rw [if_pos e]
  · have e : k = 1 := nI_inj (b := 1) (by omega) (by decide) c
    refine s_firstFit c3.1 ht hn cS o1 o2 (r_is k2 d3.1 ht hn dS o1 o2 ⟨?_, hI2⟩)
    rw [if_neg (by omega), if_pos e]
  · have e0 : k ≠ 0 := fun e => c.1 (by rw [e]; rfl)
    have e1 : k ≠ 1 := fun e => c.2 (by rw [e]; rfl)
    refine s_lightToWatch c3.1 ht hn cS o1 o2 (fun M1 f1 => ?_)
    have d3' : RO M1 t a := d3.fr f1 (by decide)
    refine r_is k2 d3'.1 ht hn d3'.2.2.2.2.2.1 o1 o2 ⟨?_, ?_⟩
    · rw [if_neg e0, if_neg e1]
    · have kk : ∀ c, c ≠ 108 → M1 c = M c := fun c hc => f1 c (by omega)
      refine ⟨t, s, u, f, a, ht, hs, hu, ho, c1.kept (kk _ (by omega)) (kk _ (by omega)) (kk _ (by omega)) (kk _ (by omega)), ?_, c3.kept (fun c hc => kk c (by unfold cC at hc; omega)), d1.fr f1 (by omega), d2.fr f1 (by decide), d3'⟩
      obtain ⟨h1, x, h2, h3, h4, h5⟩ := c2
      refine ⟨h1, x, h2, by rw [kk 21 (by omega)]; exact h3, by rw [kk 21 (by omega)]; exact h4, fun j hj => ?_⟩
      have := Nat.mod_lt (x + 15 - j) (show 0 < 16 by decide)
      exact (h5 j hj).kept (kk _ (by omega)) (kk _ (by omega)) (kk _ (by omega)) (kk _ (by omega))
  · exact eX11_is _ (bX11_is_0 _ (r_inN 0 2 rfl rfl (by decide) (fun _ _ _ _ => b1 (r_isTown d3.1 ht (fun z => absurd hz (by omega)) (fun _ => b0 ⟨rfl, hI2⟩))) (fun q => absurd ⟨k, k1, k2, rfl⟩ q)))
end IsR2
