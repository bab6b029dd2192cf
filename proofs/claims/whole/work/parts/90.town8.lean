section Town8
variable {κ : gK} {M : MM} {Q : Int32 → MM → Prop} {a : AT} {d : DR}
theorem RdR.mono {b : Nat} {x : XR} (h : RdR M a b x) : RdR M a (b + 1) x := by
  match x, h with
  | .inl e, ⟨h1, h2, ⟨i, hi, h3⟩, h4⟩ => exact ⟨h1, h2, ⟨i, by omega, h3⟩, h4⟩
  | .inr i, h => exact h
theorem r_readClause {i b : Nat} {l1 : Int32} (ha : aOk a) (hb1 : a.1 ≤ b) (hb2 : b ≤ 1000) (hi : i < a.1) (hbl : isBl a i = false) (hd : dOk d) (hl1 : l1 = if d.1.1 = 0 then 1 else 0) (hR : RdR M a b (.inr i)) (hD : DrR M d) (h : ∀ M', fT M M' → ClR M' a (b + 1) (clX a i d) → Q 0 M') : Cl κ mX11_readClause [.ref 119, .int l1] M Q := by
  have h240 := ha.1
  have hl := ha.2 i hi
  have hn0 := hd.1.1
  have h8 := hd.1.2.1
  have h12 := hd.1.2.2.1
  obtain ⟨m1, m2, ⟨m3, m4⟩, m5, m6⟩ := hR.i
  refine eX11_readClause _ (bX11_readClause_0 _ (r_here ha m1 m2 (by omega) m4 (fun M1 f1 g1 p1 => ?_)))
  have sk0 : sk a i = i := rn_stop hbl
  rw [sk0] at p1
  rw [sk0, if_pos hi, p1]
  have R1 : RdR M1 a b (.inr i) := ⟨by rw [g1 8 (by decide)]; exact m1, fun i hi => by rw [f1.1 123 (by decide)]; exact m2 i hi, ⟨m3, p1⟩, by rw [g1 11 (by decide)]; exact m5, by rw [g1 9 (by decide)]; exact m6⟩
  have D1 := hD.fR f1
  have bad : ∀ n : Nat, 0 < n ∧ n < 4 → clX a i d = (.inl (n, i), d) → Cl κ mX11_faults [.ref 119, .int (nI n), .int (nI i)] M1 (fun _ M1 => Q 0 M1) := by
    intro n hn e
    rw [e] at h
    exact r_faultsX hb1 hn (by omega) R1 (fun M2 f2 R2 _ => h M2 (f1.tr f2).T ⟨R2.mono, fun j hj => by cases hj⟩)
  have no : clX a i d = (.inl (1, i), d) → G κ mX11_readClause 36 [.ref 119, .int l1, .int (nI (a.2 i)), .int (nI i), .null] [] M1 Q := fun e => bX11_readClause_36 _ _ _ (bX11_readClause_37 _ _ _ _ (b0 (bad 1 ⟨by decide, by decide⟩ e)))
  have twice : clX a i d = (.inl (3, i), d) → G κ mX11_readClause 89 [.ref 119, .null, .null, .int (nI i), .null] [] M1 Q := fun e => bX11_readClause_89 _ (bad 3 ⟨by decide, by decide⟩ e)
  have fin : ∀ M' (r : XR × DR), fT M M' → ClR M' a b r → clX a i d = (wrd a 59 r.1, r.2) → G κ mX11_readClause 158 [.ref 119, .null, .null, .null, .null] [] M' Q := by
    intro M' r f' c' e
    rw [e] at h
    refine bX11_readClause_158 (r_ends _ ha hb1 hb2 c'.1 (fun M2 f2 R2 => h M2 (f'.tr f2.T) ⟨R2, fun j hj => ?_⟩))
    obtain ⟨j1, hj1⟩ := wrd_in hj
    exact (c'.2 j1 hj1).fR f2
  have next : ∀ M2, M2 = pt M1 119 10 (M1 119 10 + 1) → RdR M2 a b (.inr (i + 1)) ∧ fR M M2 ∧ DrR M2 d := by
    intro M2 e2
    rw [p1, nI_1] at e2
    have f2 : fR M1 M2 := by rw [e2]; exact fR.rf.pt (.inr (.inl rfl))
    exact ⟨⟨by rw [e2, pt_k _ _ (by decide)]; exact R1.1, fun i hi => by rw [e2, pt_c _ _ (by decide)]; exact R1.2.1 i hi, ⟨by omega, by rw [e2, pt_s]⟩, by rw [e2, pt_k _ _ (by decide)]; exact R1.i.2.2.2.1, by rw [e2, pt_k _ _ (by decide)]; exact R1.i.2.2.2.2⟩, f1.tr f2, D1.fR f2⟩
  have l17 : M1 119 17 = nI d.1.2.2.2.1 := D1.2.2.2.1
  have l14 : M1 119 14 = nI d.1.2.2.1 := D1.2.2.1
  have ix : ∀ c : Nat, c < 2 ^ 31 → (nI (a.2 i) = nI c ↔ a.2 i = c) := fun c hc => ⟨fun e => nI_inj (by omega) hc e, fun e => by rw [e]⟩
  by_cases c1 : a.2 i = 110
  · refine ⟨fun _ => bX11_readClause_32 _ _ _ (bX11_readClause_37 _ _ _ _ (b1 ⟨fun _ => ⟨fun z => twice ?_, fun z => ?_⟩, fun z => absurd ((ix 110 (by decide)).mpr c1) z⟩)), fun z => absurd ((ix 110 (by decide)).mpr c1) z⟩
    · have z : ¬ d.1.1 = 0 := fun q => by rw [hl1, if_pos q] at z; exact absurd z (by decide)
      unfold clX
      rw [if_pos c1, if_neg z]
    · have z : d.1.1 = 0 := Classical.byContradiction (fun q => z (by rw [hl1, if_neg q]))
      have e : clX a i d = layX a (i + 1) d := by
        unfold clX
        rw [if_pos c1, if_pos z]
      have hP0 : d.1.2.2.1 = 0 ∧ d.1.2.2.2.1 = 0 := by omega
      refine bX11_readClause_61 _ _ ⟨fun y => absurd ((ix 109 (by decide)).mp y) (by omega), fun _ => bX11_readClause_74 _ _ ⟨fun y => absurd ((ix 112 (by decide)).mp y) (by omega), fun _ => bX11_readClause_96 _ ?_⟩⟩
      rintro M2 e2
      obtain ⟨R2, f2, D2⟩ := next M2 e2
      refine ⟨fun _ => ?_, fun y => absurd ((ix 110 (by decide)).mpr c1) y⟩
      refine r_number (lo := 2) (hi := 9) _ ha hb1 hb2 R2 (fun _ _ => ⟨rfl, rfl, by decide, by decide⟩) (fun M3 r3 f3 R3 v3 => ?_)
      rintro M4 e4
      have R4 := RdR.kp (M' := M4) R3 (fun k hk => by rw [e4, pt_k _ _ (by omega)]) (by rw [e4, pt_c _ _ (by decide)])
      refine r_number (lo := 0) (hi := (num a 2 9 (.inr (i + 1))).2 - 1) _ ha hb1 hb2 R4 (fun j hj => ?_) (fun M5 r5 f5 R5 v5 => ?_)
      · have hb := num_in hj
        refine ⟨rfl, ?_, by decide, by omega⟩
        rw [e4, pt_s, v3 j hj, show (1 : Int32) = nI 1 from rfl, pk_sub (by omega)]
      · rintro M6 e6
        have R6 := RdR.kp (M' := M6) R5 (fun k hk => by rw [e6, pt_k _ _ (by omega)]) (by rw [e6, pt_c _ _ (by decide)])
        refine fin M6 ((num a 0 ((num a 2 9 (.inr (i + 1))).2 - 1) (num a 2 9 (.inr (i + 1))).1).1, (layX a (i + 1) d).2) ?_ ⟨R6, fun j hj => ?_⟩ e
        · rw [e6]
          refine fT.pt (fT.tr ?_ f5.T) (.inr (.inr (.inr (.inr (.inl rfl)))))
          rw [e4]
          exact fT.pt (f2.tr f3).T (.inr (.inr (.inr (.inl rfl))))
        · obtain ⟨⟨j1, hj1⟩, _⟩ := num_in hj
          have k6 : ∀ k, k ≠ 9 → k ≠ 10 → k ≠ 11 → k ≠ 12 → k ≠ 13 → M6 119 k = M2 119 k := fun k k1 k2 k3 k4 k5 => by rw [e6, pt_k _ _ k5, f5.2 k k1 k2 k3, e4, pt_k _ _ k4, f3.2 k k1 k2 k3]
          refine ⟨?_, ?_, by rw [k6 14 (by decide) (by decide) (by decide) (by decide) (by decide)]; exact D2.2.2.1, by rw [k6 17 (by decide) (by decide) (by decide) (by decide) (by decide)]; exact D2.2.2.2.1, fun p hp => absurd (show p < d.1.2.2.1 from hp) (by omega), fun k hk => absurd (show k < d.1.2.2.2.1 from hk) (by omega)⟩
          · show M6 119 12 = nI (num a 2 9 (.inr (i + 1))).2
            rw [e6, pt_k _ _ (by decide), f5.2 12 (by decide) (by decide) (by decide), e4, pt_s, v3 j1 hj1]
          · show M6 119 13 = nI (num a 0 ((num a 2 9 (.inr (i + 1))).2 - 1) (num a 2 9 (.inr (i + 1))).1).2
            rw [e6, pt_s, v5 j hj]
  · refine ⟨fun y => absurd ((ix 110 (by decide)).mp y) c1, fun _ => ?_⟩
    by_cases c2 : d.1.1 = 0
    · have e : clX a i d = (.inl (1, i), d) := by
        unfold clX
        rw [if_neg c1, if_pos c2]
      exact ⟨fun z => by rw [hl1, if_pos c2] at z; exact absurd z (by decide), fun _ => no e⟩
    · have hn : 2 ≤ d.1.1 := by omega
      refine ⟨fun _ => ?_, fun z => absurd (by rw [hl1, if_neg c2]) z⟩
      by_cases c3 : a.2 i = 112
      · refine ⟨fun _ => bX11_readClause_32 _ _ _ (bX11_readClause_37 _ _ _ _ (b1 ⟨fun y => absurd ((ix 110 (by decide)).mp y) c1, fun _ => bX11_readClause_61 _ _ ⟨fun y => absurd ((ix 109 (by decide)).mp y) (by omega), fun _ => bX11_readClause_74 _ _ ⟨fun _ => ?_, fun y => absurd ((ix 112 (by decide)).mpr c3) y⟩⟩⟩)), fun y => absurd ((ix 112 (by decide)).mpr c3) y⟩
        rw [l14]
        refine ⟨fun z => twice ?_, fun z => bX11_readClause_96 _ ?_⟩
        · have z := nI_inj (b := 8) (by omega) (by decide) z
          unfold clX
          rw [if_neg c1, if_neg c2, if_pos c3, if_neg (by omega)]
        · have z : d.1.2.2.1 < 8 := by
            have : d.1.2.2.1 ≠ 8 := fun q => z (by rw [q]; rfl)
            omega
          rintro M2 e2
          obtain ⟨R2, f2, D2⟩ := next M2 e2
          refine ⟨fun y => absurd ((ix 110 (by decide)).mp y) c1, fun _ => ⟨fun _ => r_readPerson ha hb1 hb2 hd hn z R2 D2 (fun M3 f3 c3' => fin M3 _ (f2.T.tr f3) c3' ?_), fun y => absurd ((ix 112 (by decide)).mpr c3) y⟩⟩
          unfold clX
          rw [if_neg c1, if_neg c2, if_pos c3, if_pos z]
          rfl
      · refine ⟨fun y => absurd ((ix 112 (by decide)).mp y) c3, fun _ => ?_⟩
        by_cases c4 : a.2 i = 109
        · refine ⟨fun _ => bX11_readClause_32 _ _ _ (bX11_readClause_37 _ _ _ _ (b1 ⟨fun y => absurd ((ix 110 (by decide)).mp y) c1, fun _ => bX11_readClause_61 _ _ ⟨fun _ => ?_, fun y => absurd ((ix 109 (by decide)).mpr c4) y⟩⟩)), fun y => absurd ((ix 109 (by decide)).mpr c4) y⟩
          rw [l17]
          refine ⟨fun z => twice ?_, fun z => bX11_readClause_74 _ _ ⟨fun y => absurd ((ix 112 (by decide)).mp y) c3, fun _ => bX11_readClause_96 _ ?_⟩⟩
          · have z := (nI_ltI (a := 0) (by decide) (by omega)).mp z
            unfold clX
            rw [if_neg c1, if_neg c2, if_neg c3, if_pos c4, if_neg (by omega)]
          · have z : d.1.2.2.2.1 = 0 := by
              rcases Nat.eq_zero_or_pos d.1.2.2.2.1 with y | y
              · exact y
              · exact absurd (nI_lt (a := 0) y (by omega)) z
            rintro M2 e2
            obtain ⟨R2, f2, D2⟩ := next M2 e2
            refine ⟨fun y => absurd ((ix 110 (by decide)).mp y) c1, fun _ => ⟨fun y => absurd ((ix 112 (by decide)).mp y) c3, fun _ => r_readDawns ha hb1 hb2 R2 D2 z (fun M3 f3 c3' => fin M3 _ (f2.T.tr f3) c3' ?_)⟩⟩
            unfold clX
            rw [if_neg c1, if_neg c2, if_neg c3, if_pos c4, if_pos z]
        · refine ⟨fun y => absurd ((ix 109 (by decide)).mp y) c4, fun _ => no ?_⟩
          unfold clX
          rw [if_neg c1, if_neg c2, if_neg c3, if_neg c4]
/-- what reading leaves in the reference's cells -/
def FiR (M : MM) (a : AT) (r : XR × DR) : Prop := (∀ e, r.1 = .inl e → M 119 11 = nI e.1 ∧ (0 < e.1 ∧ e.1 < 4) ∧ M 119 9 = nI e.2 ∧ e.2 ≤ a.1) ∧ ∀ j, r.1 = .inr j → M 119 11 = nI 0 ∧ M 119 9 = -1 ∧ DrR M r.2
theorem r_readAll (ha : aOk a) (hT : TxR M a) (h : ∀ M', fT M M' → FiR M' a (allX a 240 0 d0) → Q 0 M') : Cl κ mX11_readAll [.ref 119] M Q := by
  have h240 := ha.1
  refine eX11_readAll (bX11_readAll_0 ?_)
  rintro M1 e1 M2 e2 M3 e3 M4 e4 M5 e5 M6 e6 M7 e7
  have f7 : fT M M7 := by
    rw [e7, e6, e5, e4, e3, e2, e1]
    exact ((((((fT.rf.pt (.inr (.inl rfl))).pt (.inr (.inr (.inl rfl)))).pt (.inl rfl)).pt (.inr (.inr (.inr (.inl rfl))))).pt (.inr (.inr (.inr (.inr (.inl rfl)))))).pt (.inr (.inr (.inr (.inr (.inr (.inl rfl))))))).pt (.inr (.inr (.inr (.inr (.inr (.inr rfl))))))
  have R7 : RdR M7 a 300 (.inr 0) := by
    refine ⟨by rw [f7.2 8 (by unfold kT; decide)]; exact hT.1, fun i hi => by rw [f7.1 123 (by decide) (by decide) (by decide)]; exact hT.2 i hi, ⟨Nat.zero_le _, ?_⟩, ?_, ?_⟩
    · rw [e7, pt_k _ _ (by decide), e6, pt_k _ _ (by decide), e5, pt_k _ _ (by decide), e4, pt_k _ _ (by decide), e3, pt_k _ _ (by decide), e2, pt_k _ _ (by decide), e1, pt_s]; rfl
    · rw [e7, pt_k _ _ (by decide), e6, pt_k _ _ (by decide), e5, pt_k _ _ (by decide), e4, pt_k _ _ (by decide), e3, pt_k _ _ (by decide), e2, pt_s]; rfl
    · rw [e7, pt_k _ _ (by decide), e6, pt_k _ _ (by decide), e5, pt_k _ _ (by decide), e4, pt_k _ _ (by decide), e3, pt_s]
  have D7 : DrR M7 d0 := by
    refine ⟨?_, ?_, ?_, ?_, fun p hp => absurd hp (Nat.not_lt_zero _), fun p hp => absurd hp (Nat.not_lt_zero _)⟩
    · rw [e7, pt_k _ _ (by decide), e6, pt_k _ _ (by decide), e5, pt_k _ _ (by decide), e4, pt_s]; rfl
    · rw [e7, pt_k _ _ (by decide), e6, pt_k _ _ (by decide), e5, pt_s]; rfl
    · rw [e7, pt_k _ _ (by decide), e6, pt_s]; rfl
    · rw [e7, pt_s]; rfl
  have key : ∀ k i (d : DR) (l1 : Int32) M', 240 ≤ i + k → fT M M' → RdR M' a 300 (.inr i) → DrR M' d → dOk d → (l1 = if d.1.1 = 0 then 1 else 0) → (∀ M'', fT M M'' → FiR M'' a (allX a k i d) → Q 0 M'') → G κ mX11_readAll 37 [.ref 119, .int l1] [] M' Q := by
    intro k
    induction k with
    | zero =>
      intro i d l1 M' hk f' R' D' hd hl1 hq
      obtain ⟨m1, m2, ⟨m3, m4⟩, m5, m6⟩ := R'.i
      refine bX11_readAll_37 _ ⟨fun _ => r_here ha m1 m2 (by omega) m4 (fun M1 f1 g1 p1 => ?_), fun z => absurd m5 z⟩
      have := (sk_le (a := a) i).1
      rw [if_neg (by omega)]
      exact ⟨fun _ => bX11_readAll_62 (hq M1 (f'.tr f1.T) ⟨fun e he => (by cases he), fun j hj => ⟨by rw [g1 11 (by decide)]; exact m5, by rw [g1 9 (by decide)]; exact m6, D'.fR f1⟩⟩), fun z => absurd rfl z⟩
    | succ k ih =>
      intro i d l1 M' hk f' R' D' hd hl1 hq
      obtain ⟨m1, m2, ⟨m3, m4⟩, m5, m6⟩ := R'.i
      rw [allX_s] at hq
      have ks := sk_le (a := a) i
      refine bX11_readAll_37 _ ⟨fun _ => r_here ha m1 m2 (by omega) m4 (fun M1 f1 g1 p1 => ?_), fun z => absurd m5 z⟩
      by_cases c : sk a i < a.1
      · rw [if_pos c] at hq ⊢
        have hl := ha.2 _ c
        refine ⟨fun z => absurd z (nI_m1 (by omega)), fun _ => ?_⟩
        have R1 : RdR M1 a 300 (.inr (sk a i)) := ⟨by rw [g1 8 (by decide)]; exact m1, fun i hi => by rw [f1.1 123 (by decide)]; exact m2 i hi, ⟨by omega, p1⟩, by rw [g1 11 (by decide)]; exact m5, by rw [g1 9 (by decide)]; exact m6⟩
        refine r_readClause ha (b := 300) (by omega) (by decide) c (rn_end isBl_lt i) hd hl1 R1 (D'.fR f1) (fun M2 f2 r2 => ?_)
        have ok : ∀ j, (clX a (sk a i) d).1 = .inr j → dOk (clX a (sk a i) d).2 ∧ 2 ≤ (clX a (sk a i) d).2.1.1 ∧ sk a i < j := fun j h => cl_ok hd h
        obtain ⟨r21, r22⟩ := r2
        generalize hr : (clX a (sk a i) d).1 = x at *
        match x, r21, r22, ok, hq with
        | .inl e, r21, _, _, hq =>
          obtain ⟨_, _, _, q3, q4, q5, q6⟩ := r21
          refine bX11_readAll_37 _ ⟨fun z => ?_, fun _ => bX11_readAll_62 (hq M2 ((f'.tr f1.T).tr f2) ⟨fun e' he' => ?_, fun j hj => (by cases hj)⟩)⟩
          · rw [q3] at z
            have := nI_inj (b := 0) (by omega) (by decide) z
            omega
          · have : e = e' := Sum.inl.inj he'
            subst this
            exact ⟨q3, q4, q5, q6⟩
        | .inr j, r21, r22, ok, hq =>
          obtain ⟨o1, o2, o3⟩ := ok j rfl
          exact ih j _ 0 M2 (by omega) ((f'.tr f1.T).tr f2) r21 (r22 j rfl) o1 (by rw [if_neg (by omega)]) hq
      · rw [if_neg c] at hq ⊢
        exact ⟨fun _ => bX11_readAll_62 (hq M1 (f'.tr f1.T) ⟨fun e he => (by cases he), fun j hj => ⟨by rw [g1 11 (by decide)]; exact m5, by rw [g1 9 (by decide)]; exact m6, D'.fR f1⟩⟩), fun z => absurd rfl z⟩
  exact key 240 0 d0 1 M7 (by omega) f7 R7 D7 d0_ok rfl h
theorem allX_ok (ha : aOk a) : ∀ k i (d : DR) j, dOk d → (allX a k i d).1 = .inr j → dOk (allX a k i d).2 := by
  intro k
  induction k with
  | zero => intro i d j hd _; exact hd
  | succ k ih =>
    intro i d j hd h
    rw [allX_s] at h ⊢
    by_cases c : sk a i < a.1
    · rw [if_pos c] at h ⊢
      have ok : ∀ j, (clX a (sk a i) d).1 = .inr j → dOk (clX a (sk a i) d).2 := fun j h => (cl_ok hd h).1
      generalize hr : (clX a (sk a i) d).1 = x at *
      match x, h, ok with
      | .inl e, h, _ => cases h
      | .inr j1, h, ok => exact ih j1 _ j (ok j1 rfl) h
    · rw [if_neg c] at h ⊢
      exact hd
end Town8
