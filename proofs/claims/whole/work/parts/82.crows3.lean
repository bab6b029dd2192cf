section Crows3
variable {κ : gK} {M : MM} {Q : Int32 → MM → Prop} {t : TW} {s : ST}
theorem p9_lt {m : Nat} (h : m ≤ 5) : 9 ^ m ≤ 59049 := Nat.pow_le_pow_right (n := 9) (j := 5) (by decide) h
theorem r_crowsTogether {set m v : Nat} (hm : m ≤ 5) (hv : v < 9 ^ m) (hT : TwR M t) (ht : twOk t) (hn : 2 ≤ t.1) (hset : set < 2 ^ t.2.2.1) (hR : Rv M 122 0 s) (hR2 : Rv M 127 0 s) (hs : stOk t s) (h1 : ∀ M', fr 122 123 M M' → Rv M' 122 0 s → okCr t s set m v → Q 1 M') (h0 : ∀ M', fr 122 123 M M' → Rv M' 122 0 s → ¬ okCr t s set m v → Q 0 M') : Cl κ mX11_crowsTogether [.ref 119, .int (nI set), .int (nI v), .int (nI m)] M Q := by
  have hP := ht.2.1
  have h9 := ht.n9
  have hp : 2 ^ t.2.2.1 ≤ 256 := Nat.pow_le_pow_right (n := 2) (j := 8) (by decide) hP
  have hp9 := p9_lt hm
  have play : ∀ i, i ≤ m → ∀ (l4 : Int32) M' (si : ST), (i < m → l4 = nI (9 ^ (m - 1 - i))) → fr 122 123 M M' → Rv M' 122 0 si → stOk t si → si.1 = s.1 → si.2.2.2.1 = s.2.2.2.1 → (∀ p, p < t.2.2.1 → si.2.2.1 p = layF t s p (hc i (v / 9 ^ (m - i)) (s.2.2.2.1 p))) → G κ mX11_crowsTogether 28 [.ref 119, .int (nI set), .int (nI v), .int (nI m), .int l4, .int (nI i)] [] M' Q := by
    refine up_ind m (fun i => ∀ (l4 : Int32) M' (si : ST), (i < m → l4 = nI (9 ^ (m - 1 - i))) → fr 122 123 M M' → Rv M' 122 0 si → stOk t si → si.1 = s.1 → si.2.2.2.1 = s.2.2.2.1 → (∀ p, p < t.2.2.1 → si.2.2.1 p = layF t s p (hc i (v / 9 ^ (m - i)) (s.2.2.2.1 p))) → G κ mX11_crowsTogether 28 [.ref 119, .int (nI set), .int (nI v), .int (nI m), .int l4, .int (nI i)] [] M' Q) ?_ ?_
    · intro l4 M' sm _ f' R' ok' e1 e2 e3
      rw [Nat.sub_self, Nat.pow_zero, Nat.div_one] at e3
      have q2 := p2le h9
      have hl := andL_le sm.2.2.1 set (2 ^ t.1 - 1) t.2.2.1
      have heq : (andL sm.2.2.1 set (2 ^ t.1 - 1) t.2.2.1 = 0) ↔ ¬ okCr t s set m v := by
        rw [andL_eq ht hn ok' hset]
        unfold okCr
        have : andL sm.2.2.1 set 511 8 = andL (wF t s m v) set 511 8 := andL_congr (fun p hb => by
          have hpP : p < t.2.2.1 := by
            rcases Nat.lt_or_ge p t.2.2.1 with y | y
            · exact y
            · rw [Nat.testBit_lt_two_pow (Nat.lt_of_lt_of_le hset (Nat.pow_le_pow_right (by decide) y))] at hb; cases hb
          exact e3 p hpP) 8
        rw [this]
        exact ⟨fun z q => q z, fun z => Classical.byContradiction (fun q => z q)⟩
      have R2' : Rv M' 127 0 s := hR2.fr f' (by omega)
      refine bX11_crowsTogether_28 _ _ _ _ _ ⟨fun _ => r_common (by omega) (hT.fr f' (by omega)) ht R' ⟨fun c => bX11_crowsTogether_73 _ (r_backs R2' (fun M2 f2 r2 => ⟨.inl rfl, h0 M2 (f'.tr f2) r2 (heq.mp (nI_inj (b := 0) (by omega) (by decide) c))⟩)), fun c => bX11_crowsTogether_73 _ (r_backs R2' (fun M2 f2 r2 => ⟨.inr rfl, h1 M2 (f'.tr f2) r2 ?_⟩))⟩, fun c => absurd (Int32.le_refl _) c⟩
      exact Classical.byContradiction (fun z => c (by rw [heq.mpr z]; rfl))
    · intro i hi ih l4 M' si hl4 f' R' ok' e1 e2 e3
      have hl4 := hl4 hi
      subst hl4
      have hpi := p9_lt (m := m - 1 - i) (by omega)
      have hp0 := Nat.pow_pos (n := m - 1 - i) (show 0 < 9 by decide)
      have hd := dg_lt m v i
      refine bX11_crowsTogether_28 _ _ _ _ _ ⟨fun c => absurd c (nI_ge hi (by omega)), fun _ => ⟨nI_ne0 hp0 (by omega), ?_⟩⟩
      have hvd : v / 9 ^ (m - 1 - i) < 2 ^ 31 := Nat.lt_of_le_of_lt (Nat.div_le_self _ _) (by omega)
      rw [pk_div (by omega) hp0 (by omega), show (9 : Int32) = nI 9 from rfl, irm_nI hvd (by decide) (by decide), show (1 : Int32) = nI 1 from rfl, nI_add]
      refine r_sounds (light := 1 + dg m v i) (hT.fr f' (by omega)) ht R' ok' (by omega) (fun M2 f2 r2 => ?_)
      rw [nI_add, pk_div (by omega) (by decide) (by decide)]
      refine ih _ M2 (crowS t (1 + dg m v i) 8 si) (fun hi1 => ?_) (f'.tr f2) r2 (crowS_ok ht ok') e1 e2 (fun p hp => ?_)
      · rw [show m - 1 - i = (m - 1 - (i + 1)) + 1 by omega, Nat.pow_succ, Nat.mul_div_cancel _ (by decide)]
      · show (if p < 8 ∧ hearB t (1 + dg m v i) si p = true then crowF t.1 (t.2.2.2.2.1 p) (si.2.2.1 p) si.1 else si.2.2.1 p) = _
        rw [hc_pre hi, e3 p hp, e1]
        have hh : hearB t (1 + dg m v i) si p = true ↔ dg m v i + 1 ≤ s.2.2.2.1 p := by
          unfold hearB
          rw [e2, Bool.and_eq_true, decide_eq_true_eq, decide_eq_true_eq]
          omega
        by_cases q : dg m v i + 1 ≤ s.2.2.2.1 p
        · rw [if_pos ⟨by omega, hh.mpr q⟩, if_pos q, layF_s]
        · rw [if_neg (fun z => q (hh.mp z.2)), if_neg q, Nat.add_zero]
  refine eX11_crowsTogether _ _ _ (bX11_crowsTogether_0 _ _ _ ?_)
  refine up_ind (m - 1) (fun i => G κ mX11_crowsTogether 6 [.ref 119, .int (nI set), .int (nI v), .int (nI m), .int (nI (9 ^ i)), .int (nI (i + 1))] [] M Q) ?_ ?_ 0 (Nat.zero_le _)
  · refine bX11_crowsTogether_6 _ _ _ _ _ ⟨fun _ => play 0 (Nat.zero_le _) _ M s (fun _ => by rw [Nat.sub_zero]) fr.rf hR hs rfl rfl (fun p hp => rfl), fun c => absurd (nI_le (by omega) (by omega)) c⟩
  · intro i hi ih
    refine bX11_crowsTogether_6 _ _ _ _ _ ⟨fun c => absurd c (nI_ge (by omega) (by omega)), fun _ => ?_⟩
    rw [show (9 : Int32) = nI 9 from rfl, pk_mul, nI_1, ← Nat.pow_succ]
    exact ih
theorem r_figures {m v : Nat} (hm : m ≤ 5) (hv : v < 9 ^ m) (h : Q (nI (fg m v)) M) : Cl κ mX11_figures [.int (nI v), .int (nI m)] M Q := by
  have hp9 := p9_lt hm
  refine eX11_figures _ _ (bX11_figures_0 _ _ ?_)
  have key : ∀ i, i ≤ m → ∀ acc, acc + 10 ^ i * fg (m - i) (v / 9 ^ i) = fg m v → G κ mX11_figures 10 [.null, .int (nI m), .int (nI (v / 9 ^ i)), .int (nI (10 ^ i)), .int (nI acc), .int (nI i)] [] M Q := by
    refine up_ind m (fun i => ∀ acc, acc + 10 ^ i * fg (m - i) (v / 9 ^ i) = fg m v → G κ mX11_figures 10 [.null, .int (nI m), .int (nI (v / 9 ^ i)), .int (nI (10 ^ i)), .int (nI acc), .int (nI i)] [] M Q) ?_ ?_
    · intro acc e
      rw [Nat.sub_self, show fg 0 (v / 9 ^ m) = 0 from rfl, Nat.mul_zero, Nat.add_zero] at e
      rw [e]
      exact bX11_figures_10 _ _ _ _ _ ⟨fun _ => h, fun c => absurd (Int32.le_refl _) c⟩
    · intro i hi ih acc e
      have hvd : v / 9 ^ i < 2 ^ 31 := Nat.lt_of_le_of_lt (Nat.div_le_self _ _) (by omega)
      refine bX11_figures_10 _ _ _ _ _ ⟨fun c => absurd c (nI_ge hi (by omega)), fun _ => ?_⟩
      rw [show (9 : Int32) = nI 9 from rfl, irm_nI hvd (by decide) (by decide), pk_div hvd (by decide) (by decide), show (1 : Int32) = nI 1 from rfl, nI_add, pk_mul, nI_add, show (10 : Int32) = nI 10 from rfl, pk_mul, nI_add]
      rintro v1 rfl
      have d : v / 9 ^ i / 9 = v / 9 ^ (i + 1) := by rw [Nat.div_div_eq_div_mul, ← Nat.pow_succ]
      rw [d, ← Nat.pow_succ]
      refine ih _ ?_
      rw [show m - i = (m - (i + 1)) + 1 by omega, fg_s, d] at e
      have e2 : 10 ^ i * (fg (m - (i + 1)) (v / 9 ^ (i + 1)) * 10) = 10 ^ (i + 1) * fg (m - (i + 1)) (v / 9 ^ (i + 1)) := by
        rw [Nat.pow_succ 10 i, Nat.mul_assoc, Nat.mul_comm 10]
      rw [Nat.add_assoc, Nat.add_comm (10 ^ i * (1 + v / 9 ^ i % 9)), ← e2, ← Nat.mul_add]
      exact e
  have key0 := key 0 (Nat.zero_le _) 0 (by rw [Nat.pow_zero, Nat.one_mul, Nat.zero_add, Nat.sub_zero, Nat.div_one])
  rw [Nat.pow_zero, Nat.div_one] at key0
  exact key0
def CrR (t : TW) (s : ST) (set k : Nat) (r : Int32) : Prop := (∃ m v, m ≤ 5 ∧ v < 9 ^ m ∧ okCr t s set m v ∧ (∀ w, w < v → ¬ okCr t s set m w) ∧ (∀ j, j < m → ∀ w, w < 9 ^ j → ¬ okCr t s set j w) ∧ r = if k = 0 then nI m else nI (fg m v)) ∨ ((∀ j, j ≤ 5 → ∀ w, w < 9 ^ j → ¬ okCr t s set j w) ∧ r = -1)
theorem CrR_one {set k : Nat} {r r' : Int32} (h : CrR t s set k r) (h' : CrR t s set k r') : r = r' := by
  rcases h with ⟨m, v, a1, a2, a3, a4, a5, rfl⟩ | ⟨a1, rfl⟩ <;> rcases h' with ⟨m', v', b1, b2, b3, b4, b5, rfl⟩ | ⟨b1, rfl⟩
  · have e : m = m' := by
      rcases Nat.lt_trichotomy m m' with z | z | z
      · exact absurd a3 (b5 m z v a2)
      · exact z
      · exact absurd b3 (a5 m' z v' b2)
    subst e
    have e : v = v' := by
      rcases Nat.lt_trichotomy v v' with z | z | z
      · exact absurd a3 (b4 v z)
      · exact z
      · exact absurd b3 (a4 v' z)
    rw [e]
  · exact absurd a3 (b1 m a1 v a2)
  · exact absurd b3 (a1 m' b1 v' b2)
  · rfl
theorem r_crows {set k : Nat} (hk : k ≤ 1) (hT : TwR M t) (ht : twOk t) (hn : 2 ≤ t.1) (hset : set < 2 ^ t.2.2.1) (hR : Rv M 122 0 s) (hR2 : Rv M 127 0 s) (hs : stOk t s) (h : ∀ M' r, fr 122 123 M M' → Rv M' 122 0 s → CrR t s set k r → Q r M') : G κ mX11_crows 43 [.ref 119, .int (nI set), .int (nI k), .int 1, .int 0, .null] [] M Q := by
  refine up_ind 6 (fun m => ∀ M', fr 122 123 M M' → Rv M' 122 0 s → (∀ j, j < m → ∀ w, w < 9 ^ j → ¬ okCr t s set j w) → G κ mX11_crows 43 [.ref 119, .int (nI set), .int (nI k), .int (nI (9 ^ m)), .int (nI m), .null] [] M' Q) ?_ ?_ 0 (by decide) M fr.rf hR (fun j hj => absurd hj (by omega))
  · intro M' f' R' no
    exact bX11_crows_43 _ _ _ _ ⟨fun _ => h M' _ f' R' (.inr ⟨fun j hj => no j (by omega), rfl⟩), fun c => absurd (by decide) c⟩
  · intro m hm ih M' f' R' no
    have hp9 := p9_lt (m := m) (by omega)
    refine bX11_crows_43 _ _ _ _ ⟨fun c => absurd c (nI_ge (b := 6) hm (by decide)), fun _ => ?_⟩
    refine up_ind (9 ^ m) (fun v => ∀ M', fr 122 123 M M' → Rv M' 122 0 s → (∀ w, w < v → ¬ okCr t s set m w) → G κ mX11_crows 53 [.ref 119, .int (nI set), .int (nI k), .int (nI (9 ^ m)), .int (nI m), .int (nI v)] [] M' Q) ?_ ?_ 0 (Nat.zero_le _) M' f' R' (fun w hw => absurd hw (Nat.not_lt_zero _))
    · intro M2 f2 R2 none
      refine bX11_crows_53 _ _ _ _ _ ⟨fun _ => ?_, fun c => absurd (Int32.le_refl _) c⟩
      rw [show (9 : Int32) = nI 9 from rfl, pk_mul, nI_1, ← Nat.pow_succ]
      refine ih M2 f2 R2 (fun j hj => ?_)
      by_cases z : j = m
      · subst z; exact none
      · exact no j (by omega)
    · intro v hv ih2 M2 f2 R2 none
      refine bX11_crows_53 _ _ _ _ _ ⟨fun c => absurd c (nI_ge hv (by omega)), fun _ => ?_⟩
      refine r_crowsTogether (by omega) hv (hT.fr f2 (by omega)) ht hn hset R2 (hR2.fr f2 (by omega)) hs (fun M3 f3 R3 ok => b1 ?_) (fun M3 f3 R3 nok => b0 ?_)
      · have res : ∀ r, (r = if k = 0 then nI m else nI (fg m v)) → Q r M3 := fun r hr => h M3 r (f2.tr f3) R3 (.inl ⟨m, v, by omega, hv, ok, none, no, hr⟩)
        refine ⟨fun c => bX11_crows_87 _ (res _ ?_), fun c => r_figures (by omega) hv (bX11_crows_87 _ (res _ ?_))⟩
        · rw [if_pos (nI_inj (b := 0) (by omega) (by decide) c)]
        · rw [if_neg (fun z => c (by rw [z]; rfl))]
      · rw [nI_1]
        refine ih2 M3 (f2.tr f3) R3 (fun w hw => ?_)
        by_cases z : w = v
        · rw [z]; exact nok
        · exact none w (by omega)
theorem op_crows (hI : IV M) (x y : Int32) : Cl κ mX10_crows [.ref 0, .int x, .int y] M (fun r M1 => Cl κ mX11_crows [.ref 119, .int x, .int y] M1 (fun r' M2 => r = r' ∧ IV M2)) := by
  have hI2 := hI
  obtain ⟨t, s, u, f, a, ht, hs, hu, ho, c1, c2, c3, d1, d2, d3⟩ := hI
  have hP := ht.2.1
  refine eX10_crows _ _ (bX10_crows_0 _ _ (s_hasAll twO_1 c3.1 ht (fun set hset e => b1 ?_) (fun hn => b0 ?_)))
  · subst e
    have no : (¬ ∃ k, 0 ≤ k ∧ k ≤ 1 ∧ y = nI k) → G κ mX10_crows 23 [.null, .null, .null, .null] [] M (fun r M1 => Cl κ mX11_crows [.ref 119, .int (nI set), .int y] M1 (fun r' M2 => r = r' ∧ IV M2)) := fun hn =>
      bX10_crows_23 (eX11_crows _ _ (bX11_crows_0 _ _ (r_areThere d3.1 ht (fun _ _ _ => b1 (r_inN 0 1 rfl rfl (by decide) (fun j k1 k2 e => absurd ⟨j, k1, k2, e⟩ hn) (fun _ => b0 ⟨rfl, hI2⟩))) (fun hn => absurd ⟨set, hset, rfl⟩ hn))))
    refine ⟨fun c => no (rg_lo (a := 0) (by decide) (by decide) c), fun c => ⟨fun c' => ?_, fun c' => no (rg_hi (by decide) c')⟩⟩
    obtain ⟨k, k1, k2, rfl⟩ := rg_in (a := 0) (b := 1) (by decide) (by decide) c c'
    have ref : ∀ M1, fr 100 102 M M1 → 2 ≤ t.1 → ∀ r, CrR t s set k r → Cl κ mX11_crows [.ref 119, .int (nI set), .int (nI k)] M1 (fun r' M2 => r = r' ∧ IV M2) := by
      intro M1 f1 hn r hr
      have d3' : RO M1 t a := d3.fr f1 (by decide)
      have d1' := d1.fr f1 (by omega)
      refine eX11_crows _ _ (bX11_crows_0 _ _ (r_areThere d3'.1 ht (fun _ _ _ => b1 (r_inN 0 1 rfl rfl (by decide) (fun _ _ _ _ => b1 (r_isTown d3'.1 ht (fun _ => b1 (r_asides d1' (fun M2 f2 R2 => ?_))) (fun z => absurd z (by omega)))) (fun hn => absurd ⟨k, k1, k2, rfl⟩ hn))) (fun hn => absurd ⟨set, hset, rfl⟩ hn)))
      refine r_crows k2 (d3'.1.fr f2 (by omega)) ht hn hset (d1'.fr f2 (by omega)) R2 hs.1 (fun M3 r3 f3 R3 hr3 => ⟨CrR_one hr hr3, ?_⟩)
      have kk : ∀ c, c ≠ 100 → c ≠ 101 → c ≠ 122 → c ≠ 127 → M3 c = M c := fun c q1 q2 q3 q4 => by rw [f3 c (by omega), f2 c (by omega), f1 c (by omega)]
      exact ⟨t, s, u, f, a, ht, hs, hu, ho, c1.kept (kk _ (by omega) (by omega) (by omega) (by omega)) (kk _ (by omega) (by omega) (by omega) (by omega)) (kk _ (by omega) (by omega) (by omega) (by omega)) (kk _ (by omega) (by omega) (by omega) (by omega)), c2.kept (fun c q1 q2 => kk c (by omega) (by omega) (by omega) (by omega)), c3.kept (fun c hc => by unfold cC at hc; exact kk c (by omega) (by omega) (by omega) (by omega)), R3, d2.kept (by rw [kk 119 (by omega) (by omega) (by omega) (by omega)]) (kk 126 (by omega) (by omega) (by omega) (by omega)), d3.kept (fun c hc => by unfold cR at hc; exact kk c (by omega) (by omega) (by omega) (by omega)) (fun q _ => by rw [kk 119 (by omega) (by omega) (by omega) (by omega)])⟩
    refine s_isThere twO_1 c3.1 ht (fun hn => b1 ?_) (fun hz => b0 ?_)
    · refine s_fewest c3.1 ht hn hset c1 hs.1 (fun M1 m v f1 hm hv ok first low l1 => ?_) (fun M1 f1 none => ?_)
      · refine ⟨fun c => bX10_crows_65 _ (ref M1 f1 hn _ (.inl ⟨m, v, hm, hv, ok, first, low, ?_⟩)), fun c => ⟨fun c2 => absurd c2 (nI_m1 (by omega)), fun _ => s_figures hm l1 (ref M1 f1 hn _ (.inl ⟨m, v, hm, hv, ok, first, low, ?_⟩))⟩⟩
        · rw [if_pos (nI_inj (b := 0) (by omega) (by decide) c)]
        · rw [if_neg (fun z => c (by rw [z]; rfl))]
      · exact ⟨fun _ => bX10_crows_65 _ (ref M1 f1 hn _ (.inr ⟨none, rfl⟩)), fun _ => ⟨fun _ => bX10_crows_65 _ (ref M1 f1 hn _ (.inr ⟨none, rfl⟩)), fun c => absurd rfl c⟩⟩
    · exact eX11_crows _ _ (bX11_crows_0 _ _ (r_areThere d3.1 ht (fun _ _ _ => b1 (r_inN 0 1 rfl rfl (by decide) (fun _ _ _ _ => b1 (r_isTown d3.1 ht (fun z => absurd hz (by omega)) (fun _ => b0 ⟨rfl, hI2⟩))) (fun hn => absurd ⟨k, k1, k2, rfl⟩ hn))) (fun hn => absurd ⟨set, hset, rfl⟩ hn)))
  · exact eX11_crows _ _ (bX11_crows_0 _ _ (r_areThere d3.1 ht (fun k hk e => absurd ⟨k, hk, e⟩ hn) (fun _ => b0 ⟨rfl, hI2⟩)))
end Crows3
