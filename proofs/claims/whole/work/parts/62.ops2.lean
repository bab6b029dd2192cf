section Ops2
variable {κ : gK} {M : MM} {t : TW} {s : ST}
theorem nI_clr (a b : Nat) : nI a &&& (nI b ^^^ (-1)) = nI (a ^^^ (a &&& b)) := by
  apply b_extQ
  intro i hi
  rw [Int32.toBitVec_and, BitVec.getLsbD_and, Int32.toBitVec_xor, BitVec.getLsbD_xor, b_m1Q i hi, nI_bv, nI_bv, nI_bv, BitVec.getLsbD_ofNat, BitVec.getLsbD_ofNat, BitVec.getLsbD_ofNat, Nat.testBit_xor, Nat.testBit_and]
  cases a.testBit i <;> cases b.testBit i <;> simp [hi]
def upN (f : Nat → Nat) (p v : Nat) : Nat → Nat := fun q => if q = p then v else f q
theorem Sv_la {o p v : Nat} (h : Sv M o s) : Sv (pt M (o + 1) p (nI v)) o (s.1, s.2.1, upN s.2.2.1 p v, s.2.2.2.1, s.2.2.2.2) := by
  refine ⟨by rw [pt_c _ _ (by omega)]; exact h.1, by rw [pt_c _ _ (by omega)]; exact h.2.1, fun q hq => ⟨?_, by rw [pt_c _ _ (by omega)]; exact (h.2.2 q hq).2.1, by rw [pt_c _ _ (by omega)]; exact (h.2.2 q hq).2.2⟩⟩
  show _ = nI (if q = p then v else s.2.2.1 q)
  by_cases e : q = p
  · subst e; rw [pt_s, if_pos rfl]
  · rw [pt_k _ _ e, if_neg e]; exact (h.2.2 q hq).1
theorem Sv_ea {o p v : Nat} (h : Sv M o s) : Sv (pt M (o + 2) p (nI v)) o (s.1, s.2.1, s.2.2.1, upN s.2.2.2.1 p v, s.2.2.2.2) := by
  refine ⟨by rw [pt_c _ _ (by omega)]; exact h.1, by rw [pt_c _ _ (by omega)]; exact h.2.1, fun q hq => ⟨by rw [pt_c _ _ (by omega)]; exact (h.2.2 q hq).1, ?_, by rw [pt_c _ _ (by omega)]; exact (h.2.2 q hq).2.2⟩⟩
  show _ = nI (if q = p then v else s.2.2.2.1 q)
  by_cases e : q = p
  · subst e; rw [pt_s, if_pos rfl]
  · rw [pt_k _ _ e, if_neg e]; exact (h.2.2 q hq).2.1
theorem Sv_mk {o v : Nat} (h : Sv M o s) : Sv (pt M o 4 (nI v)) o (s.1, v, s.2.2) := by
  refine ⟨by rw [pt_k _ _ (by decide)]; exact h.1, by rw [pt_s], fun q hq => ⟨?_, ?_, ?_⟩⟩
  · rw [pt_c _ _ (by omega)]; exact (h.2.2 q hq).1
  · rw [pt_c _ _ (by omega)]; exact (h.2.2 q hq).2.1
  · rw [pt_c _ _ (by omega)]; exact (h.2.2 q hq).2.2
theorem Rv_la {p v : Nat} (hp : p < 8) (h : Rv M 122 0 s) : Rv (pt M 122 (2 + p) (nI v)) 122 0 (s.1, s.2.1, upN s.2.2.1 p v, s.2.2.2.1, s.2.2.2.2) := by
  refine ⟨by rw [pt_k _ _ (by omega)]; exact h.1, by rw [pt_k _ _ (by omega)]; exact h.2.1, fun q hq => ⟨?_, by rw [pt_k _ _ (by omega)]; exact (h.2.2 q hq).2.1, by rw [pt_k _ _ (by omega)]; exact (h.2.2 q hq).2.2⟩⟩
  show _ = nI (if q = p then v else s.2.2.1 q)
  by_cases e : q = p
  · subst e; rw [Nat.zero_add, pt_s, if_pos rfl]
  · rw [pt_k _ _ (by omega), if_neg e]; exact (h.2.2 q hq).1
theorem Rv_ea {p v : Nat} (hp : p < 8) (h : Rv M 122 0 s) : Rv (pt M 122 (10 + p) (nI v)) 122 0 (s.1, s.2.1, s.2.2.1, upN s.2.2.2.1 p v, s.2.2.2.2) := by
  refine ⟨by rw [pt_k _ _ (by omega)]; exact h.1, by rw [pt_k _ _ (by omega)]; exact h.2.1, fun q hq => ⟨by rw [pt_k _ _ (by omega)]; exact (h.2.2 q hq).1, ?_, by rw [pt_k _ _ (by omega)]; exact (h.2.2 q hq).2.2⟩⟩
  show _ = nI (if q = p then v else s.2.2.2.1 q)
  by_cases e : q = p
  · subst e; rw [Nat.zero_add, pt_s, if_pos rfl]
  · rw [pt_k _ _ (by omega), if_neg e]; exact (h.2.2 q hq).2.1
theorem Rv_mk {v : Nat} (h : Rv M 122 0 s) : Rv (pt M 122 1 (nI v)) 122 0 (s.1, v, s.2.2) := by
  refine ⟨by rw [pt_k _ _ (by omega)]; exact h.1, by rw [Nat.zero_add, pt_s], fun q hq => ⟨?_, ?_, ?_⟩⟩
  · rw [pt_k _ _ (by omega)]; exact (h.2.2 q hq).1
  · rw [pt_k _ _ (by omega)]; exact (h.2.2 q hq).2.1
  · rw [pt_k _ _ (by omega)]; exact (h.2.2 q hq).2.2
theorem okS_la {p v : Nat} (h : okS t s) (hp : p < t.2.2.1) (hv : v < 2 ^ t.1) (h0 : 0 < v) : okS t (s.1, s.2.1, upN s.2.2.1 p v, s.2.2.2.1, s.2.2.2.2) := by
  obtain ⟨⟨h1, h2, h3, h4, h5, h6, h7⟩, h8⟩ := h
  refine ⟨⟨h1, h2, fun q => ?_, fun q hq => ?_, fun q hq => ?_, h6, h7⟩, h8⟩
  · show (if q = p then v else s.2.2.1 q) < _
    split
    · exact hv
    · exact h3 q
  · show 0 < (if q = p then v else s.2.2.1 q)
    split
    · exact h0
    · exact h4 q hq
  · show (if q = p then v else s.2.2.1 q) = 0
    rw [if_neg (by omega)]; exact h5 q hq
theorem okS_ea {p v : Nat} (h : okS t s) (hv : v ≤ 9) : okS t (s.1, s.2.1, s.2.2.1, upN s.2.2.2.1 p v, s.2.2.2.2) := by
  obtain ⟨⟨h1, h2, h3, h4, h5, h6, h7⟩, h8⟩ := h
  refine ⟨⟨h1, h2, h3, h4, h5, fun q => ?_, h7⟩, h8⟩
  show (if q = p then v else s.2.2.2.1 q) ≤ _
  split
  · exact hv
  · exact h6 q
theorem okS_mk {v : Nat} (h : okS t s) (hv : v < 2 ^ t.1) : okS t (s.1, v, s.2.2) := ⟨⟨h.1.1, hv, h.1.2.2⟩, h.2⟩
theorem op_feed (hI : IV M) (x : Int32) : Cl κ mX10_feed [.ref 0, .int x] M (fun r M1 => Cl κ mX11_feed [.ref 119, .int x] M1 (fun r' M2 => r = r' ∧ IV M2)) := by
  have hI2 := hI
  obtain ⟨t, s, u, f, a, ht, hs, hu, ho, c1, c2, c3, d1, d2, d3⟩ := hI
  have hlen := ho.2.1.1
  have no : (¬ ∃ k, 0 ≤ k ∧ k ≤ 255 ∧ x = nI k) → G κ mX10_feed 11 [.null, .null] [] M (fun r M1 => Cl κ mX11_feed [.ref 119, .int x] M1 (fun r' M2 => r = r' ∧ IV M2)) := fun hn =>
    bX10_feed_11 (eX11_feed _ (bX11_feed_0 _ (r_inN 0 255 rfl rfl (by decide) (fun k k1 k2 e => absurd ⟨k, k1, k2, e⟩ hn) (fun _ => b0 ⟨rfl, hI2⟩))))
  refine eX10_feed _ (bX10_feed_0 _ ⟨fun c => no (rg_lo (a := 0) (by decide) (by decide) c), fun c => ⟨fun c' => ?_, fun c' => no (rg_hi (by decide) c')⟩⟩)
  obtain ⟨k, k1, k2, rfl⟩ := rg_in (a := 0) (b := 255) (by decide) (by decide) c c'
  have h8 : M 11 1 = nI a.2.1.1 := c3.2.2.1.1
  rw [h8]
  refine ⟨fun c3' => ?_, fun c3' => ?_⟩
  · have hl := (nI_ltI (b := 240) (by omega) (by decide)).mp c3'
    refine eX5_add _ (bX5_add_0 _ ⟨fun e => ?_, fun _ => ?_⟩)
    · rw [h8] at e; exact absurd e (nI_ge (b := 240) hl (by decide))
    rw [h8, tNI (by omega)]
    refine ⟨vp_in_nI hl (by decide), ?_⟩
    rintro M1 e1 M2 e2
    rw [e1, pt_c _ _ (by decide), h8, nI_1] at e2
    refine bX5_add_30 ?_
    have h2 : M2 11 1 = nI (a.2.1.1 + 1) := by rw [e2, pt_s]
    rw [h2]
    have fM : fr 11 13 M M2 := by rw [e2]; exact (fr.rf.pt (by omega) (by omega)).pt (by omega) (by omega)
    have d38 : M2 119 8 = nI a.2.1.1 := by rw [fM 119 (by omega)]; exact d3.2.2.1.1
    refine eX11_feed _ (bX11_feed_0 _ (r_inN 0 255 rfl rfl (by decide) (fun k' _ _ e => b1 ⟨fun e2 => ?_, fun _ => ?_⟩) (fun hn2 => absurd ⟨k, k1, k2, rfl⟩ hn2)))
    · rw [d38] at e2; exact absurd (nI_inj (b := 240) (by omega) (by decide) e2) (by omega)
    rw [d38, tNI (by omega)]
    refine ⟨vp_in_nI hl (by decide), ?_⟩
    rintro M3 e3 M4 e4
    rw [e3, pt_c _ _ (by decide), d38, nI_1] at e4
    have h4 : M4 119 8 = nI (a.2.1.1 + 1) := by rw [e4, pt_s]
    have fr4 : fr 119 124 M2 M4 := by rw [e4]; exact (fr.rf.pt (by omega) (by omega)).pt (by omega) (by omega)
    have cc : ∀ c, c < 119 → M4 c = M2 c := fun c hc => fr4 c (by omega)
    refine ⟨h4.symm, t, s, u, f, (a.1, (a.2.1.1 + 1, upN a.2.1.2 a.2.1.1 k), a.2.2), ht, hs, hu, ⟨ho.1, ⟨show a.2.1.1 + 1 ≤ 240 by omega, fun i (hi : i < a.2.1.1 + 1) => ?_⟩, ho.2.2⟩, (c1.fr fM (by omega)).fr fr4 (by omega), (c2.fr fM (by omega)).fr fr4 (by omega), CO_tx c3 (fun c hc hn => ?_) ⟨by rw [cc 11 (by omega)]; exact h2, fun i (hi : i < a.2.1.1 + 1) => ?_⟩, ?_, ?_, RO_tx (d3.fr fM (by decide)) (fun c hc hn => ?_) (fun q hq hn => ?_) ⟨h4, fun i (hi : i < a.2.1.1 + 1) => ?_⟩⟩
    · show (if i = a.2.1.1 then k else a.2.1.2 i) ≤ 255
      split
      · exact k2
      · exact ho.2.1.2 i (by omega)
    · unfold cC at hc; rw [cc c (by omega), fM c (by omega)]
    · rw [cc 12 (by omega), e2, pt_c _ _ (by decide)]
      show _ = nI (if i = a.2.1.1 then k else a.2.1.2 i)
      by_cases e : i = a.2.1.1
      · rw [e, pt_s, if_pos rfl]
      · rw [pt_k _ _ e, if_neg e]; exact c3.2.2.1.2 i (by omega)
    · exact (d1.fr fM (by omega)).blk (fun j _ => by rw [e4, pt_c _ _ (by decide), pt_c _ _ (by decide)])
    · refine (d2.fr fM (by decide)).kept ?_ ?_
      · rw [e4, pt_k _ _ (by decide), pt_c _ _ (by decide)]
      · rw [e4, pt_c _ _ (by decide), pt_c _ _ (by decide)]
    · unfold cR at hc; rw [e4, pt_c _ _ (by omega), pt_c _ _ (by omega)]
    · rw [e4, pt_k _ _ hn, pt_c _ _ (by decide)]
    · rw [e4, pt_c _ _ (by decide)]
      show _ = nI (if i = a.2.1.1 then k else a.2.1.2 i)
      by_cases e : i = a.2.1.1
      · rw [e, pt_s, if_pos rfl]
      · rw [pt_k _ _ e, if_neg e, fM 123 (by omega)]; exact d3.2.2.1.2 i (by omega)
  · have hl : a.2.1.1 = 240 := by
      have : ¬ a.2.1.1 < 240 := fun e => c3' (nI_lt (b := 240) e (by decide))
      omega
    refine eX11_feed _ (bX11_feed_0 _ (r_inN 0 255 rfl rfl (by decide) (fun k' _ _ e => b1 ⟨fun _ => ⟨rfl, hI2⟩, fun e2 => absurd ?_ e2⟩) (fun hn2 => absurd ⟨k, k1, k2, rfl⟩ hn2)))
    rw [d3.2.2.1.1, hl]; rfl
end Ops2
