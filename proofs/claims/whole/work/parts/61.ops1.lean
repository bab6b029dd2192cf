/-! THE CALLS, ONE BY ONE: the class answers, then the reference answers the same, and the invariant holds again -/
section Ops1
variable {κ : gK} {M : MM}
theorem op_fault (hI : IV M) : Cl κ mX10_fault [.ref 0] M (fun r M1 => Cl κ mX11_fault [.ref 119] M1 (fun r' M2 => r = r' ∧ IV M2)) := by
  have hI2 := hI
  obtain ⟨t, s, u, f, a, ht, hs, hu, ho, c1, c2, c3, d1, d2, d3⟩ := hI
  refine eX10_fault (bX10_fault_0 (eX11_fault (bX11_fault_0 ⟨?_, hI2⟩)))
  rw [c3.2.2.2.1, d3.2.2.2.1]
theorem op_onLayer (hI : IV M) (x : Int32) : Cl κ mX10_onLayer [.ref 0, .int x] M (fun r M1 => Cl κ mX11_onLayer [.ref 119, .int x] M1 (fun r' M2 => r = r' ∧ IV M2)) := by
  have hI2 := hI
  obtain ⟨t, s, u, f, a, ht, hs, hu, ho, c1, c2, c3, d1, d2, d3⟩ := hI
  have h9 := ht.n9
  refine eX10_onLayer _ (bX10_onLayer_0 _ (s_hasLayer twO_1 c3.1 ht (fun k hk e => b1 ?_) (fun hn => b0 ?_)))
  · subst e
    rw [one_shl (by omega)]
    refine s_whoIsOn stO_13 c1 (hs.1.b512 ht) (eX11_onLayer _ (bX11_onLayer_0 _ (r_isLayer d3.1 ht (fun k2 hk2 e2 => b1 ?_) (fun hn => absurd ⟨k, hk, rfl⟩ hn))))
    exact r_whoOn (by omega) d3.1 ht d1 hs.1 (bX11_onLayer_18 _ ⟨rfl, hI2⟩)
  · exact eX11_onLayer _ (bX11_onLayer_0 _ (r_isLayer d3.1 ht (fun k2 hk2 e2 => absurd ⟨k2, hk2, e2⟩ hn) (fun _ => b0 (bX11_onLayer_18 _ ⟨rfl, hI2⟩))))
theorem crowS_hear {t : TW} {light : Nat} {s : ST} : hearF t light (crowS t light 8 s) = hearF t light s := rfl
/-- what a doing changes: the state, and what can be undone -/
theorem IV.done {M M1 M2 : MM} {t : TW} {s s' : ST} {u : Nat} {f : Nat → ST} {a : AO} (ht : twOk t) (hs : okS t s) (hs' : okS t s') (hu : okU t u f) (ho : okO t a) (c3 : CO M t a) (d3 : RO M t a)
    (f1 : fr 13 87 M M1) (e1 : Sv M1 13 s') (e2 : PaC M1 (min (u + 1) 16) (consF s f)) (f2 : ∀ c, c ≠ 119 → c ≠ 122 → c ≠ 126 → c ≠ 127 → M2 c = M1 c) (f3 : ∀ k, k ≠ 19 → M2 119 k = M1 119 k) (g1 : Rv M2 122 0 s') (g2 : PaR M2 (min (u + 1) 16) (consF s f)) : IV M2 := by
  have cc : ∀ c, c < 119 → M2 c = M1 c := fun c hc => f2 c (by omega) (by omega) (by omega) (by omega)
  refine ⟨t, s', min (u + 1) 16, consF s f, a, ht, hs', fun j hj => ?_, ho, e1.kept (cc _ (by omega)) (cc _ (by omega)) (cc _ (by omega)) (cc _ (by omega)), ?_, ?_, g1, g2, ?_⟩
  · match j, hj with
    | 0, _ => exact hs
    | j + 1, hj => exact hu j (by omega)
  · have : fr 119 200 M1 M2 ∨ True := Or.inr trivial
    obtain ⟨h1, x, h2, h3, h4, h5⟩ := e2
    refine ⟨h1, x, h2, by rw [cc 21 (by omega)]; exact h3, by rw [cc 21 (by omega)]; exact h4, fun j hj => ?_⟩
    have := Nat.mod_lt (x + 15 - j) (show 0 < 16 by decide)
    exact (h5 j hj).kept (cc _ (by omega)) (cc _ (by omega)) (cc _ (by omega)) (cc _ (by omega))
  · exact c3.kept (fun c hc => by
      unfold cC at hc
      rw [cc c (by omega), f1 c (by omega)])
  · exact d3.kept (fun c hc => by
      unfold cR at hc
      rw [f2 c (by omega) (by omega) (by omega) (by omega), f1 c (by omega)]) (fun k hk => by
      unfold kR at hk
      rw [f3 k (by omega), f1 119 (by omega)])
theorem op_crow (hI : IV M) (x : Int32) : Cl κ mX10_crow [.ref 0, .int x] M (fun r M1 => Cl κ mX11_crow [.ref 119, .int x] M1 (fun r' M2 => r = r' ∧ IV M2)) := by
  have hI2 := hI
  obtain ⟨t, s, u, f, a, ht, hs, hu, ho, c1, c2, c3, d1, d2, d3⟩ := hI
  have no : (¬ ∃ k, 1 ≤ k ∧ k ≤ 9 ∧ x = nI k) → G κ mX10_crow 11 [.null, .null] [] M (fun r M1 => Cl κ mX11_crow [.ref 119, .int x] M1 (fun r' M2 => r = r' ∧ IV M2)) := fun hn =>
    bX10_crow_11 (eX11_crow _ (bX11_crow_0 _ (r_inN 1 9 rfl rfl (by decide) (fun k k1 k2 e => absurd ⟨k, k1, k2, e⟩ hn) (fun _ => b0 ⟨rfl, hI2⟩))))
  refine eX10_crow _ (bX10_crow_0 _ ⟨fun c => no (rg_lo (by decide) (by decide) c), fun c => ⟨fun c2' => ?_, fun c2' => no (rg_hi (by decide) c2')⟩⟩)
  obtain ⟨k, k1, k2, rfl⟩ := rg_in (a := 1) (b := 9) (by decide) (by decide) c c2'
  refine s_isThere twO_1 c3.1 ht (fun hn => b1 ?_) (fun hn => b0 ?_)
  · refine s_remember stO_13 (by decide) c1 c2 (fun M1 fM1 pM1 => ?_)
    refine s_hearCrow stO_13 twO_1 (by decide) (by decide) (c3.1.fr fM1 (by omega)) ht (c1.fr fM1 (by omega)) hs.1 (by omega) (fun M2 fM2 sM2 => ?_)
    have fr2 : fr 13 87 M M2 := (fM1.up (by omega) (by omega)).tr (fM2.up (by omega) (by omega))
    have d1' : Rv M2 122 0 s := d1.fr fr2 (by omega)
    have d3' : RO M2 t a := d3.fr fr2 (by decide)
    refine eX11_crow _ (bX11_crow_0 _ (r_inN 1 9 rfl rfl (by decide) (fun k' _ _ e => b1 ?_) (fun hn2 => absurd ⟨k, k1, k2, rfl⟩ hn2)))
    refine r_isTown d3'.1 ht (fun _ => b1 ?_) (fun e => by omega)
    refine r_notes d1' (d2.fr fr2 (by decide)) (fun M3 g1 g2 g3 => ?_)
    have d1'' : Rv M3 122 0 s := d1'.blk (fun j _ => by rw [g1 122 (by decide) (by decide)])
    have tw3 : TwR M3 t := (d3'.kept (fun c hc => by unfold cR at hc; exact g1 c (by omega) (by omega)) (fun k hk => by unfold kR at hk; exact g2 k (by omega))).1
    refine r_sounds tw3 ht d1'' hs.1 (by omega) (fun M4 fM4 rM4 => ?_)
    refine r_hears (tw3.fr fM4 (by omega)) ht rM4 (crowS_ok ht hs.1) (by omega) ⟨by rw [crowS_hear], ?_⟩
    refine IV.done ht hs ⟨crowS_ok ht hs.1, hs.2⟩ hu ho c3 d3 fr2 sM2 (PaC_kept13 pM1 fM2) (fun c h1 h2 h3 h4 => by rw [fM4 c (by omega), g1 c h1 h3]) (fun k hk => by rw [fM4 119 (by omega), g2 k hk]) rM4 (g3.kept (by rw [fM4 119 (by omega)]) (fM4 126 (by omega)))
  · exact eX11_crow _ (bX11_crow_0 _ (r_inN 1 9 rfl rfl (by decide) (fun k' _ _ e => b1 (r_isTown d3.1 ht (fun e => by omega) (fun _ => b0 ⟨rfl, hI2⟩))) (fun hn2 => absurd ⟨k, k1, k2, rfl⟩ hn2)))
end Ops1
