section Town11
variable {κ : gK} {M : MM}
theorem op_town (hI : IV M) : Cl κ mX10_town [.ref 0] M (fun r M1 => Cl κ mX11_town [.ref 119] M1 (fun r' M2 => r = r' ∧ IV M2)) := by
  obtain ⟨t, s, u, f, a, ht, hs, hu, ho, c1, c2, c3, d1, d2, d3⟩ := hI
  have ha : aOk a.2.1 := ho.2.1
  have h240 := ha.1
  refine eX10_town (bX10_town_0 (s_readInto ha c3.2.2.1 (fun M1 f1 l1 F1 => ?_)))
  have ok : ∀ j, (allX a.2.1 240 0 d0).1 = .inr j → dOk (allX a.2.1 240 0 d0).2 := fun j h => allX_ok ha 240 0 d0 j d0_ok h
  obtain ⟨z1, z2, z3, z4, z5, z6, z7, z8, z9⟩ := c3
  rintro M2 e2
  have k2 : ∀ c, c ≠ 0 → M2 c = M1 c := fun c hc => by rw [e2, pt_c _ _ hc]
  have k13 : M2 0 13 = nI a.2.2.2.1 := by rw [e2, pt_k _ _ (by decide), f1 0 (by omega)]; exact z5
  have rest : ∀ Mx Q', (∀ c, 119 ≤ c → Mx c = M c) → (∀ M3, fT Mx M3 → FiR M3 a.2.1 (allX a.2.1 240 0 d0) → M3 119 8 = nI a.2.1.1 → G κ mX11_town 27 [.ref 119, .null] [.int (M3 119 9), .ref 119] M3 Q') → Cl κ mX11_town [.ref 119] Mx Q' := by
    intro Mx Q' hx hq
    have tx : TxR Mx a.2.1 := by
      have := d3.2.2.1
      unfold TxR at *
      rw [hx 119 (by omega), hx 123 (by omega)]; exact this
    refine eX11_town (bX11_town_0 (r_readAll ha tx (fun M3 f3 F3 => ?_)))
    have m8 : M3 119 8 = nI a.2.1.1 := by rw [f3.2 8 (by unfold kT; decide)]; exact tx.1
    refine ⟨fun _ => hq M3 f3 F3 m8, fun c => absurd ?_ c⟩
    rw [m8]
    rcases hr : (allX a.2.1 240 0 d0).1 with e | j
    · obtain ⟨_, _, q3, q4⟩ := F3.1 e hr
      rw [q3]; exact nI_le q4 (by omega)
    · obtain ⟨_, q2, _⟩ := F3.2 j hr
      rw [q2]
      exact Int32.le_trans (by decide : (-1 : Int32) ≤ 0) (nI_pos' (by omega))
  have hxM2 : ∀ c, 119 ≤ c → M2 c = M c := fun c hc => by rw [k2 c (by omega), f1 c (by omega)]
  rcases hr : (allX a.2.1 240 0 d0).1 with e | j
  · obtain ⟨q1, q2, q3⟩ := F1.1 e hr
    rw [q1]
    refine ⟨fun c => ?_, fun _ => rest M2 _ hxM2 (fun M3 f3 F3 m8 => bX11_town_27 _ ?_)⟩
    · have := nI_inj (b := 0) (by omega) (by decide) c
      omega
    obtain ⟨p1, p2, p3, p4⟩ := F3.1 e hr
    rintro M4 e4 M5 e5
    have m11 : M5 119 11 = nI e.1 := by rw [e5, pt_k _ _ (by decide), e4, pt_k _ _ (by decide)]; exact p1
    rw [m11]
    refine ⟨fun c => absurd c (nI_nle p2.1 (by omega)), fun _ => ⟨rfl, ?_⟩⟩
    have c5 : ∀ c, c ≠ 119 → c ≠ 124 → c ≠ 125 → M5 c = M2 c := fun c x1 x2 x3 => by rw [e5, pt_c _ _ x1, e4, pt_c _ _ x1, f3.1 c x1 x2 x3]
    have kk : ∀ c, c ≠ 0 → (c < 6 ∨ 12 ≤ c) → c < 119 → M5 c = M c := fun c x1 x2 x3 => by rw [c5 c (by omega) (by omega) (by omega), k2 c x1, f1 c (by omega)]
    have m9 : M5 119 9 = nI e.2 := by rw [e5, pt_k _ _ (by decide), e4, pt_s]; exact p3
    have mk : ∀ k, ¬ kT k → k ≠ 8 → M5 119 k = M 119 k := fun k x1 x2 => by rw [e5, pt_k _ _ x2, e4, pt_k _ _ (fun z => x1 (.inl z)), f3.2 k x1, hxM2 119 (by omega)]
    have mc : ∀ c, 119 < c → c ≠ 124 → c ≠ 125 → M5 c = M c := fun c x1 x2 x3 => by rw [c5 c (by omega) x2 x3, hxM2 c (by omega)]
    refine ⟨t, s, u, f, (a.1, (0, fun _ => 0), nI e.2, a.2.2.2), ht, hs, hu, ⟨ho.1, ⟨Nat.zero_le _, fun i hi => absurd hi (Nat.not_lt_zero _)⟩, ho.2.2⟩, c1.kept (kk _ (by omega) (by omega) (by omega)) (kk _ (by omega) (by omega) (by omega)) (kk _ (by omega) (by omega) (by omega)) (kk _ (by omega) (by omega) (by omega)), c2.kept (fun c x1 x2 => kk c (by omega) (by omega) (by omega)), ?_, d1.blk (fun j _ => by rw [mc 122 (by omega) (by omega) (by omega)]), d2.kept (mk 19 (by unfold kT; decide) (by decide)) (mc 126 (by omega) (by omega) (by omega)), ?_⟩
    · refine ⟨z1.kept (kk _ (by omega) (by omega) (by omega)) (kk _ (by omega) (by omega) (by omega)) (kk _ (by omega) (by omega) (by omega)), fun i hi => ?_, ⟨?_, fun i hi => absurd hi (Nat.not_lt_zero _)⟩, ?_, ?_, ?_, ?_, ?_, ?_⟩
      · obtain ⟨a1, a2⟩ := z2 i hi
        refine ⟨by rw [kk 90 (by omega) (by omega) (by omega)]; exact a1, fun hb => ?_⟩
        obtain ⟨b1, b2⟩ := a2 hb
        exact ⟨b1.kept (kk _ (by omega) (by omega) (by omega)) (kk _ (by omega) (by omega) (by omega)) (kk _ (by omega) (by omega) (by omega)) (kk _ (by omega) (by omega) (by omega)), by rw [kk 89 (by omega) (by omega) (by omega)]; exact b2⟩
      · rw [c5 11 (by omega) (by omega) (by omega), k2 11 (by omega)]; exact l1
      · rw [c5 0 (by omega) (by omega) (by omega), e2, pt_s]; exact q3
      · rw [c5 0 (by omega) (by omega) (by omega)]; exact k13
      · unfold ShC; rw [kk 105 (by omega) (by omega) (by omega), kk 106 (by omega) (by omega) (by omega), kk 107 (by omega) (by omega) (by omega)]; exact z6
      · unfold MeC; rw [kk 109 (by omega) (by omega) (by omega), kk 110 (by omega) (by omega) (by omega), kk 111 (by omega) (by omega) (by omega), kk 112 (by omega) (by omega) (by omega)]; exact z7
      · unfold BoC; rw [kk 115 (by omega) (by omega) (by omega), kk 116 (by omega) (by omega) (by omega), kk 117 (by omega) (by omega) (by omega), kk 118 (by omega) (by omega) (by omega)]; exact z8
      · unfold StC; rw [kk 103 (by omega) (by omega) (by omega)]; exact z9
    · have n8 : M5 119 8 = nI 0 := by rw [e5, pt_s]; rfl
      have N : RO (pt M5 119 9 (M 119 9)) t (a.1, (0, fun _ => 0), a.2.2) := by
        refine RO_tx d3 (fun c hc hn => ?_) (fun k hk hn => ?_) ⟨by rw [pt_k _ _ (by decide)]; exact n8, fun i hi => absurd hi (Nat.not_lt_zero _)⟩
        · unfold cR at hc
          rw [pt_c _ _ (by omega), mc c (by omega) (by omega) (by omega)]
        · by_cases z : k = 9
          · rw [z, pt_s]
          · unfold kR at hk
            rw [pt_k _ _ z, mk k (by unfold kT; omega) hn]
      exact RO_fa N (fun c hc _ => by unfold cR at hc; rw [pt_c _ _ (by omega)]) (fun k _ hn => by rw [pt_k _ _ hn]) m9
  · obtain ⟨q1, q2, q3⟩ := F1.2 j hr
    have hd := ok j hr
    rw [q1]
    refine ⟨fun _ => ?_, fun c => absurd rfl c⟩
    generalize hdd : (allX a.2.1 240 0 d0).2 = d at *
    have D2 : DrC M2 d := ⟨q3.1.kept (k2 _ (by omega)) (k2 _ (by omega)) (k2 _ (by omega)), fun p hp => by rw [k2 8 (by omega), k2 9 (by omega)]; exact q3.2 p hp⟩
    refine s_copyTown hd D2 (fun M3 f3 T3 S3 => s_begin hd T3 S3 (fun M4 f4 S4 => s_forget (fun M5 f5 P5 => s_forgetIm (fun M6 f6 I6 => eX10_tearAll (bX10_tearAll_0 ?_)))))
    rintro v1 _ M7 e7 M8 e8 M9 e9
    have g9 : ∀ c, c ≠ 105 → c ≠ 109 → c ≠ 115 → M9 c = M6 c := fun c x1 x2 x3 => by rw [e9, pt_c _ _ x3, e8, pt_c _ _ x2, e7, pt_c _ _ x1]
    have g6 : ∀ c, 17 ≤ c → c ≠ 21 → c ≠ 90 → M6 c = M c := fun c x1 x2 x3 => by rw [f6 c (by omega), f5 c (by omega), f4 c (by omega), f3 c (by omega), k2 c (by omega), f1 c (by omega)]
    have T9 : Tw M9 1 d.1 := ((((T3.fr f4 (by omega)).fr f5 (by omega)).fr f6 (by omega))).kept (g9 _ (by omega) (by omega) (by omega)) (g9 _ (by omega) (by omega) (by omega)) (g9 _ (by omega) (by omega) (by omega))
    have S9 : Sv M9 13 (sB d) := ((S4.fr f5 (by omega)).fr f6 (by omega)).kept (g9 _ (by omega) (by omega) (by omega)) (g9 _ (by omega) (by omega) (by omega)) (g9 _ (by omega) (by omega) (by omega)) (g9 _ (by omega) (by omega) (by omega))
    have P9 : PaC M9 0 f := ((P5 f).fr f6 (by omega)).kept (fun c x1 x2 => g9 c (by omega) (by omega) (by omega))
    rw [T9.2.2.1]
    refine rest M9 _ (fun c hc => by rw [g9 c (by omega) (by omega) (by omega), g6 c (by omega) (by omega) (by omega)]) (fun N1 n1 F1' _ => ?_)
    obtain ⟨r1, r2, r3⟩ := F1'.2 j hr
    rw [hdd] at r3
    rw [r2]
    refine r_found hd r3 r1 (fun N2 n2 kn TN RN x9 x8 x19 x24 x26 x29 x134 => ⟨rfl, ?_⟩)
    have cl : ∀ c, c < 119 → N2 c = M9 c := fun c hc => by rw [n2 c (by omega) (by omega) (by omega) (by omega) (by omega), n1.1 c (by omega) (by omega) (by omega)]
    refine ⟨d.1, sB d, 0, f, ((fun _ => false, a.1.2), (0, fun _ => 0), -1, a.2.2.2.1, (0, fun _ => 0, fun _ => 0), (0, fun _ => 0, fun _ => 0, fun _ => 0), (0, fun _ => 0, fun _ => 0, fun _ => 0)), hd.1, sB_ok hd, fun j hj => absurd hj (Nat.not_lt_zero _), ⟨fun i _ hb => absurd (show false = true from hb) (by decide), ⟨Nat.zero_le _, fun i hi => absurd hi (Nat.not_lt_zero _)⟩, ho.2.2.1, ⟨Nat.zero_le _, fun i hi => absurd hi (Nat.not_lt_zero _)⟩, ⟨Nat.zero_le _, fun i hi => absurd hi (Nat.not_lt_zero _)⟩, ⟨Nat.zero_le _, fun i hi => absurd hi (Nat.not_lt_zero _)⟩⟩, S9.kept (cl _ (by omega)) (cl _ (by omega)) (cl _ (by omega)) (cl _ (by omega)), P9.kept (fun c _ x2 => cl c (by omega)), ?_, RN, ⟨by decide, x19, fun j hj => absurd hj (Nat.not_lt_zero _)⟩, ?_⟩
    · refine ⟨T9.kept (cl _ (by omega)) (cl _ (by omega)) (cl _ (by omega)), fun i hi => ⟨?_, fun hb => absurd (show false = true from hb) (by decide)⟩, ⟨?_, fun i hi => absurd hi (Nat.not_lt_zero _)⟩, ?_, ?_, ⟨?_, fun i hi => absurd hi (Nat.not_lt_zero _)⟩, ⟨?_, fun i hi => absurd hi (Nat.not_lt_zero _)⟩, ⟨?_, fun i hi => absurd hi (Nat.not_lt_zero _)⟩, ?_⟩
      · rw [cl 90 (by omega), g9 90 (by omega) (by omega) (by omega)]; exact I6 i hi
      · rw [cl 11 (by omega), g9 11 (by omega) (by omega) (by omega), f6 11 (by omega), f5 11 (by omega), f4 11 (by omega), f3 11 (by omega), k2 11 (by omega)]; exact l1
      · rw [cl 0 (by omega), g9 0 (by omega) (by omega) (by omega), f6 0 (by omega), f5 0 (by omega), f4 0 (by omega), f3 0 (by omega), e2, pt_s]; exact q2
      · rw [cl 0 (by omega), g9 0 (by omega) (by omega) (by omega), f6 0 (by omega), f5 0 (by omega), f4 0 (by omega), f3 0 (by omega)]; exact k13
      · rw [cl 105 (by omega), e9, pt_c _ _ (by decide), e8, pt_c _ _ (by decide), e7, pt_s]; rfl
      · rw [cl 109 (by omega), e9, pt_c _ _ (by decide), e8, pt_s]; rfl
      · rw [cl 115 (by omega), e9, pt_s]; rfl
      · unfold StC; rw [cl 103 (by omega), g9 103 (by omega) (by omega) (by omega), g6 103 (by omega) (by omega) (by omega)]; exact z9
    · refine ⟨TN, fun i hi => ⟨x134 i hi, fun hb => absurd (show false = true from hb) (by decide)⟩, ⟨x8, fun i hi => absurd hi (Nat.not_lt_zero _)⟩, x9, ?_, ⟨x24, fun i hi => absurd hi (Nat.not_lt_zero _)⟩, ⟨x26, fun i hi => absurd hi (Nat.not_lt_zero _)⟩, ⟨x29, fun i hi => absurd hi (Nat.not_lt_zero _)⟩⟩
      rw [kn 20 (by unfold kB; decide), n1.2 20 (by unfold kT; decide), g9 119 (by omega) (by omega) (by omega), g6 119 (by omega) (by omega) (by omega)]
      exact d3.2.2.2.2.1
end Town11
