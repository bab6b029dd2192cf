section Crows2
variable {κ : gK} {M : MM} {Q : Int32 → MM → Prop} {t : TW} {s : ST}
def layF (t : TW) (s : ST) (p h : Nat) : Nat := itN (fun x => crowF t.1 (t.2.2.2.2.1 p) x s.1) h (s.2.2.1 p)
theorem layF_s (t : TW) (s : ST) (p h : Nat) : layF t s p (h + 1) = crowF t.1 (t.2.2.2.2.1 p) (layF t s p h) s.1 := rfl
theorem layF_lt (hn : 2 ≤ t.1) (hs : stOk t s) (p : Nat) : ∀ h, layF t s p h < 2 ^ t.1 := by
  intro h
  induction h with
  | zero => exact hs.2.2.1 p
  | succ h ih => rw [layF_s]; exact crowF_lt (by omega) ih
def wF (t : TW) (s : ST) (m v : Nat) (p : Nat) : Nat := layF t s p (hc m v (s.2.2.2.1 p))
def okCr (t : TW) (s : ST) (set m v : Nat) : Prop := andL (wF t s m v) set 511 8 ≠ 0
theorem andL_s (la : Nat → Nat) (x z k : Nat) : andL la x z (k + 1) = if x.testBit k = true then andL la x z k &&& la k else andL la x z k := rfl
theorem andL_z {la : Nat → Nat} {x z k : Nat} (h : andL la x z k = 0) : ∀ m, k ≤ m → andL la x z m = 0 := by
  intro m hm
  obtain ⟨j, rfl⟩ : ∃ j, m = k + j := ⟨m - k, by omega⟩
  clear hm
  induction j with
  | zero => exact h
  | succ j ih =>
    rw [show k + (j + 1) = (k + j) + 1 by omega, andL_s, ih]
    split
    · exact Nat.zero_and _
    · rfl
theorem andL_congr {la lb : Nat → Nat} {x z : Nat} (h : ∀ p, x.testBit p = true → la p = lb p) : ∀ k, andL la x z k = andL lb x z k := by
  intro k
  induction k with
  | zero => rfl
  | succ k ih =>
    rw [andL_s, andL_s, ih]
    by_cases q : x.testBit k = true
    · rw [if_pos q, if_pos q, h k q]
    · rw [if_neg q, if_neg q]
theorem okCr_swap {set m v w : Nat} (h : ∀ e, hc m w e = hc m v e) (ho : okCr t s set m v) : okCr t s set m w := by
  unfold okCr at *
  have : wF t s m w = wF t s m v := funext (fun p => by unfold wF; rw [h])
  rw [this]; exact ho
/-- what is first among the lights that don't fall is first of all -/
theorem okCr_first {set m V : Nat} (h : ∀ w, ndP m w → w < V → ¬ okCr t s set m w) : ∀ w, w < V → ¬ okCr t s set m w := by
  intro w
  induction w using Nat.strongRecOn with
  | ind w ih =>
    intro hw ho
    by_cases q : ndP m w
    · exact h w q hw ho
    · have : ∃ i, i + 1 < m ∧ w / 9 ^ i % 9 < w / 9 ^ (i + 1) % 9 := by
        refine Classical.byContradiction (fun z => q (fun i hi => ?_))
        rcases Nat.lt_or_ge (w / 9 ^ i % 9) (w / 9 ^ (i + 1) % 9) with y | y
        · exact absurd ⟨i, hi, y⟩ z
        · exact y
      obtain ⟨i, hi, hd⟩ := this
      obtain ⟨w', hw', hh⟩ := hc_swap i m w hi hd
      exact ih w' hw' (by omega) (okCr_swap hh ho)
theorem s_goneOn_any {o : Nat} (ho : twO o) {x y : Int32} (h : ∀ r, Q r M) : Cl κ mX9_goneOn [.ref o, .int x, .int y] M Q := eX9_goneOn o _ _ (bX9_goneOn_0 o ho _ _ ⟨fun _ => h _, fun _ => h _⟩)
theorem s_strideOf_any {o : Nat} (ho : twO o) {x : Int32} (h : ∀ r, Q r M) : Cl κ mX9_strideOf [.ref o, .int x] M Q := eX9_strideOf o _ (bX9_strideOf_0 o ho _ ⟨fun z => ⟨fun _ => ⟨fun e => by rw [e] at z; exact absurd z (by decide), h _⟩, fun _ => h _, fun _ => h _⟩, fun _ => h _⟩)
theorem s_behindCrow_any {o : Nat} (ho : twO o) {k x d : Int32} (h : ∀ r, Q r M) : Cl κ mX9_behindCrow [.ref o, .int k, .int x, .int d] M Q := by
  have h27 : G κ mX9_behindCrow 27 [.ref o, .int k, .int x, .null] [] M Q := bX9_behindCrow_27 o ho _ _ (s_strideOf_any ho (fun _ => s_goneOn_any ho (fun r => h r)))
  exact eX9_behindCrow o _ _ _ (bX9_behindCrow_0 o ho _ _ _ ⟨fun _ => s_goneOn_any ho (fun r => h _), fun _ => ⟨fun _ => ⟨fun _ => h27, fun _ => h _⟩, fun _ => h27⟩⟩)
def BhC (t : TW) (s : ST) (M : MM) : Prop := ∀ p, p < t.2.2.1 → ∀ h, h < 6 → M 101 (p * 6 + h) = nI (layF t s p h)
theorem s_fillBehind (hT : Tw M 1 t) (ht : twOk t) (hn : 2 ≤ t.1) (hS : Sv M 13 s) (hs : stOk t s) (h : ∀ M', fr 101 102 M M' → BhC t s M' → Q 0 M') : Cl κ mX1_fillBehind [.ref 99, .ref 1, .ref 13] M Q := by
  have hP := ht.2.1
  have h9 := ht.n9
  refine eX1_fillBehind 1 13 (bX1_fillBehind_0 1 13 twO_1 stO_13 ?_)
  refine up_ind 8 (fun p => ∀ M', fr 101 102 M M' → (∀ q, q < p → q < t.2.2.1 → ∀ h, h < 6 → M' 101 (q * 6 + h) = nI (layF t s q h)) → G κ mX1_fillBehind 2 [.ref 99, .ref 1, .ref 13, .int (nI p), .null, .null] [] M' Q) ?_ ?_ 0 (by decide) M fr.rf (fun q hq => absurd hq (by omega))
  · intro M' f' b'
    exact bX1_fillBehind_2 1 13 twO_1 stO_13 _ ⟨fun _ => h M' f' (fun p hp => b' p (by omega) hp), fun c => absurd (by decide) c⟩
  · intro p hp ih M' f' b'
    refine bX1_fillBehind_2 1 13 twO_1 stO_13 _ ⟨fun c => absurd c (nI_ge (b := 8) hp (by decide)), fun _ => ⟨v8 hp, ?_⟩⟩
    rw [t8 hp]
    rintro v1 rfl
    rw [((hS.fr f' (by omega)).2.2 p hp).1]
    by_cases hpP : p < t.2.2.1
    · refine up_ind 6 (fun h => ∀ M', fr 101 102 M M' → (∀ q, q < p → q < t.2.2.1 → ∀ h, h < 6 → M' 101 (q * 6 + h) = nI (layF t s q h)) → (∀ j, j < h → M' 101 (p * 6 + j) = nI (layF t s p j)) → G κ mX1_fillBehind 19 [.ref 99, .ref 1, .ref 13, .int (nI p), .int (nI (layF t s p h)), .int (nI h)] [] M' Q) ?_ ?_ 0 (by decide) M' f' b' (fun j hj => absurd hj (by omega))
      · intro M1 f1 b1 c1
        refine bX1_fillBehind_19 1 13 twO_1 stO_13 _ _ _ ⟨fun _ => ?_, fun c => absurd (by decide) c⟩
        rw [nI_1]
        refine ih M1 f1 (fun q hq hqP h hh => ?_)
        by_cases z : q = p
        · subst z; exact c1 h hh
        · exact b1 q (by omega) hqP h hh
      · intro h hh ih2 M1 f1 b1 c1
        refine bX1_fillBehind_19 1 13 twO_1 stO_13 _ _ _ ⟨fun c => absurd c (nI_ge (b := 6) hh (by decide)), fun _ => ?_⟩
        rw [show (6 : Int32) = nI 6 from rfl, pk_mul, nI_add, tNI (by omega), t8 hp]
        refine ⟨vp_in_nI (by omega) (by decide), ?_⟩
        rintro M2 e2
        have f2 : fr 101 102 M M2 := by rw [e2]; exact f1.pt (by omega) (by omega)
        have T2 := hT.fr f2 (by omega)
        have S2 := hS.fr f2 (by omega)
        rw [show M2 2 p = nI (t.2.2.2.2.1 p) from T2.2.2.2.2.1 p hpP, S2.1]
        refine ⟨v8 hp, s_behindCrow twO_1 T2 ht (ht.2.2.2.1 p hpP) (layF_lt hn hs p h) (by have := hs.1; omega) (.inl hn) ?_⟩
        rw [nI_1]
        refine ih2 M2 f2 (fun q hq hqP j hj => ?_) (fun j hj => ?_)
        · rw [e2, pt_k _ _ (by omega)]; exact b1 q hq hqP j hj
        · by_cases z : j = h
          · rw [z, e2, pt_s]
          · rw [e2, pt_k _ _ (by omega)]; exact c1 j (by omega)
    · generalize nI (s.2.2.1 p) = l4
      refine up_ind 6 (fun h => ∀ (l4 : Int32) M', fr 101 102 M M' → (∀ q, q < p → q < t.2.2.1 → ∀ h, h < 6 → M' 101 (q * 6 + h) = nI (layF t s q h)) → G κ mX1_fillBehind 19 [.ref 99, .ref 1, .ref 13, .int (nI p), .int l4, .int (nI h)] [] M' Q) ?_ ?_ 0 (by decide) l4 M' f' b'
      · intro l4 M1 f1 b1
        refine bX1_fillBehind_19 1 13 twO_1 stO_13 _ _ _ ⟨fun _ => ?_, fun c => absurd (by decide) c⟩
        rw [nI_1]
        exact ih M1 f1 (fun q hq hqP h hh => b1 q (by omega) hqP h hh)
      · intro h hh ih2 l4 M1 f1 b1
        refine bX1_fillBehind_19 1 13 twO_1 stO_13 _ _ _ ⟨fun c => absurd c (nI_ge (b := 6) hh (by decide)), fun _ => ?_⟩
        rw [show (6 : Int32) = nI 6 from rfl, pk_mul, nI_add, tNI (by omega)]
        refine ⟨vp_in_nI (by omega) (by decide), ?_⟩
        rintro M2 e2
        refine ⟨v8 hp, s_behindCrow_any twO_1 (fun r => ?_)⟩
        rw [nI_1]
        refine ih2 r M2 (by rw [e2]; exact f1.pt (by omega) (by omega)) (fun q hq hqP j hj => ?_)
        rw [e2, pt_k _ _ (by omega)]; exact b1 q hq hqP j hj
def LiC (M : MM) (m v : Nat) : Prop := ∀ i, i < m → M 100 i = nI (dg m v i + 1)
theorem s_heardOf {m v ear : Nat} (hm : m ≤ 5) (he : ear ≤ 9) (hL : LiC M m v) (h : Q (nI (hc m v ear)) M) : Cl κ mX1_heardOf [.ref 99, .int (nI ear), .int (nI m)] M Q := by
  refine eX1_heardOf _ _ (bX1_heardOf_0 _ _ ?_)
  refine up_ind m (fun i => G κ mX1_heardOf 5 [.ref 99, .int (nI ear), .int (nI m), .int (nI (hc i (v / 9 ^ (m - i)) ear)), .int (nI i)] [] M Q) ?_ ?_ 0 (Nat.zero_le _)
  · rw [Nat.sub_self, Nat.pow_zero, Nat.div_one]
    exact bX1_heardOf_5 _ _ _ _ ⟨fun _ => h, fun c => absurd (Int32.le_refl _) c⟩
  · intro i hi ih
    have hd := dg_lt m v i
    rw [hc_pre hi] at ih
    refine bX1_heardOf_5 _ _ _ _ ⟨fun c => absurd c (nI_ge hi (by omega)), fun _ => ⟨vp_in_nI (by omega) (by decide), ?_⟩⟩
    rw [tNI (by omega), hL i hi]
    refine ⟨fun c => bX1_heardOf_25 _ _ _ _ ?_, fun c => bX1_heardOf_25 _ _ _ _ ?_⟩
    · have c := (nI_ltI (by omega) (by omega)).mp c
      rw [if_neg (by omega)] at ih
      rw [nI_1]; exact ih
    · have c : dg m v i + 1 ≤ ear := by
        rcases Nat.lt_or_ge ear (dg m v i + 1) with y | y
        · exact absurd (nI_lt y (by omega)) c
        · exact y
      rw [if_pos c] at ih
      rw [nI_1, nI_1]; exact ih
theorem s_bringTogether {set m v : Nat} (hm : m ≤ 5) (ht : twOk t) (hn : 2 ≤ t.1) (hset : set < 2 ^ t.2.2.1) (hS : Sv M 13 s) (hs : stOk t s) (hB : BhC t s M) (hL : LiC M m v) (h1 : okCr t s set m v → Q 1 M) (h0 : ¬ okCr t s set m v → Q 0 M) : Cl κ mX1_bringTogether [.ref 99, .ref 13, .int (nI set), .int (nI m)] M Q := by
  have hP := ht.2.1
  have h9 := ht.n9
  have hp : 2 ^ t.2.2.1 ≤ 256 := Nat.pow_le_pow_right (n := 2) (j := 8) (by decide) hP
  have b511 := andL_le (wF t s m v) set 511
  have fin : ∀ k, k ≤ 8 → (andL (wF t s m v) set 511 k = 0 ∨ k = 8) → G κ mX1_bringTogether 63 [.null, .null, .null, .null, .int (nI (andL (wF t s m v) set 511 k)), .null] [] M Q := by
    intro k hk hor
    have b := b511 k
    refine bX1_bringTogether_63 13 stO_13 _ ⟨fun c => bX1_bringTogether_73 13 stO_13 _ ⟨.inl rfl, h0 ?_⟩, fun c => bX1_bringTogether_73 13 stO_13 _ ⟨.inr rfl, h1 ?_⟩⟩
    · have c : andL (wF t s m v) set 511 k = 0 := nI_inj (b := 0) (by omega) (by decide) c
      exact fun z => z (andL_z c 8 hk)
    · have e : k = 8 := hor.resolve_left (fun z => c (by rw [z]; rfl))
      subst e
      exact fun z => c (by rw [z]; rfl)
  refine eX1_bringTogether 13 _ _ (bX1_bringTogether_0 13 stO_13 _ _ ?_)
  refine up_ind 8 (fun k => G κ mX1_bringTogether 8 [.ref 99, .ref 13, .int (nI set), .int (nI m), .int (nI (andL (wF t s m v) set 511 k)), .int (nI k)] [] M Q) ?_ ?_ 0 (by decide)
  · exact bX1_bringTogether_8 13 stO_13 _ _ _ _ ⟨fun _ => fin 8 (by decide) (.inr rfl), fun c => absurd (by decide) c⟩
  · intro k hk ih
    have b := b511 k
    rw [andL_s] at ih
    refine bX1_bringTogether_8 13 stO_13 _ _ _ _ ⟨fun c => absurd c (nI_ge (b := 8) hk (by decide)), fun _ => ⟨fun c => fin k (by omega) (.inl (nI_inj (b := 0) (by omega) (by decide) c)), fun c => ⟨fun c2 => bX1_bringTogether_57 13 stO_13 _ _ _ _ ?_, fun c2 => ⟨v8 hk, ?_⟩⟩⟩⟩
    · have c2 := (tb_and (by omega) (by omega)).mp c2
      rw [if_neg (by rw [c2]; decide)] at ih
      rw [nI_1]; exact ih
    · have c2 : set.testBit k = true := by
        cases q : set.testBit k with
        | true => rfl
        | false => exact absurd ((tb_and (by omega) (by omega)).mpr q) c2
      have kP : k < t.2.2.1 := by
        rcases Nat.lt_or_ge k t.2.2.1 with y | y
        · exact y
        · rw [Nat.testBit_lt_two_pow (Nat.lt_of_lt_of_le hset (Nat.pow_le_pow_right (by decide) y))] at c2; cases c2
      rw [if_pos c2] at ih
      rw [t8 hk, show M 15 k = nI (s.2.2.2.1 k) from (hS.2.2 k hk).2.1]
      have hh := hc_le m v (s.2.2.2.1 k)
      refine s_heardOf hm (hs.2.2.2.2.2.1 k) hL ?_
      rw [show (6 : Int32) = nI 6 from rfl, pk_mul, nI_add, tNI (by omega), hB k kP _ (by omega), nI_and]
      refine ⟨vp_in_nI (by omega) (by decide), ?_⟩
      rintro v2 rfl
      refine bX1_bringTogether_57 13 stO_13 _ _ _ _ ?_
      rw [nI_1]; exact ih
theorem s_nextLights {m v : Nat} (hm : m ≤ 5) (hv : v < 9 ^ m) (hL : LiC M m v) (h1 : ∀ M', fr 100 101 M M' → nx m v < 9 ^ m → LiC M' m (nx m v) → Q 1 M') (h0 : v = 9 ^ m - 1 → Q 0 M) : Cl κ mX1_nextLights [.ref 99, .int (nI m)] M Q := by
  refine eX1_nextLights _ (bX1_nextLights_0 _ ?_)
  rw [nI_m1a]
  have key : ∀ j, j ≤ m → (∀ k, j ≤ k → k < m → dg m v k = 8) → G κ mX1_nextLights 4 [.ref 99, .int (nI m), .int (nI j + -1), .null, .null] [] M Q := by
    intro j
    induction j with
    | zero =>
      intro _ h8
      exact bX1_nextLights_4 _ _ ⟨fun _ => h0 (dg_top m v hv (fun k hk => h8 k (Nat.zero_le _) hk)), fun c => absurd (by decide) c⟩
    | succ j ih =>
      intro hj h8
      rw [pk_m1]
      have hd := dg_lt m v j
      refine bX1_nextLights_4 _ _ ⟨fun c => absurd c (nI_pos (by omega)), fun _ => ⟨vp_in_nI (by omega) (by decide), ?_⟩⟩
      rw [tNI (by omega), hL j (by omega)]
      refine ⟨fun c => ih (by omega) (fun k k1 k2 => ?_), fun c => ?_⟩
      · have c := (nI_leI (a := 9) (by decide) (by omega)).mp c
        by_cases z : k = j
        · subst z; omega
        · exact h8 k (by omega) k2
      · have c : dg m v j < 8 := by
          rcases Nat.lt_or_ge (dg m v j) 8 with y | y
          · exact y
          · exact absurd (nI_le (a := 9) (by omega) (by omega)) c
        obtain ⟨a1, a2, a3⟩ := nx_dg m v j (by omega) hv c (fun k k1 k2 => h8 k (by omega) k2)
        rw [nI_1]
        rintro v1 rfl
        refine up_ind m (fun k => j ≤ k → ∀ M', fr 100 101 M M' → (∀ i, i < k → M' 100 i = nI (dg m (nx m v) i + 1)) → G κ mX1_nextLights 31 [.ref 99, .int (nI m), .null, .int (nI (dg m v j + 1 + 1)), .int (nI k)] [] M' Q) ?_ ?_ j (by omega) (Nat.le_refl _) M fr.rf (fun i hi => by rw [hL i (by omega), a2 i hi])
        · intro _ M' f' l'
          exact bX1_nextLights_31 _ _ _ ⟨fun _ => h1 M' f' a1 l', fun c => absurd (Int32.le_refl _) c⟩
        · intro k hk ih2 hjk M' f' l'
          refine bX1_nextLights_31 _ _ _ ⟨fun c => absurd c (nI_ge hk (by omega)), fun _ => ⟨vp_in_nI (by omega) (by decide), ?_⟩⟩
          rw [tNI (by omega)]
          rintro M2 e2
          rw [nI_1]
          refine ih2 (by omega) M2 (by rw [e2]; exact f'.pt (by omega) (by omega)) (fun i hi => ?_)
          by_cases z : i = k
          · rw [z, e2, pt_s, a3 k hjk hk]
          · rw [e2, pt_k _ _ z]; exact l' i (by omega)
  exact key m (Nat.le_refl _) (fun k k1 k2 => absurd k2 (by omega))
theorem s_findLights {set m : Nat} (hm : m ≤ 5) (ht : twOk t) (hn : 2 ≤ t.1) (hset : set < 2 ^ t.2.2.1) (hS : Sv M 13 s) (hs : stOk t s) (hB : BhC t s M) (h1 : ∀ M' v, fr 100 101 M M' → v < 9 ^ m → okCr t s set m v → (∀ w, w < v → ¬ okCr t s set m w) → LiC M' m v → Q 1 M') (h0 : ∀ M', fr 100 101 M M' → (∀ w, w < 9 ^ m → ¬ okCr t s set m w) → Q 0 M') : Cl κ mX1_findLights [.ref 99, .ref 13, .int (nI set), .int (nI m)] M Q := by
  have hp9 := Nat.pow_pos (n := m) (show 0 < 9 by decide)
  refine eX1_findLights 13 _ _ (bX1_findLights_0 13 stO_13 _ _ ?_)
  have tries : ∀ k, k ≤ 1287 → ∀ M', fr 100 101 M M' → LiC M' m (itN (nx m) k 0) → itN (nx m) k 0 < 9 ^ m → (∀ w, ndP m w → w < itN (nx m) k 0 → ¬ okCr t s set m w) → G κ mX1_findLights 26 [.ref 99, .ref 13, .int (nI set), .int (nI m), .int (nI k)] [] M' Q := by
    refine up_ind 1287 (fun k => ∀ M', fr 100 101 M M' → LiC M' m (itN (nx m) k 0) → itN (nx m) k 0 < 9 ^ m → (∀ w, ndP m w → w < itN (nx m) k 0 → ¬ okCr t s set m w) → G κ mX1_findLights 26 [.ref 99, .ref 13, .int (nI set), .int (nI m), .int (nI k)] [] M' Q) ?_ ?_
    · intro M' _ _ hv _
      exact absurd (nx_many m (by omega)) (by omega)
    · intro k hk ih M' f' l' hv no
      rw [itN_s] at ih
      generalize itN (nx m) k 0 = v at *
      refine bX1_findLights_26 13 stO_13 _ _ _ ⟨fun c => absurd c (nI_ge (b := 10000) (by omega) (by decide)), fun _ => ?_⟩
      refine s_bringTogether hm ht hn hset (hS.fr f' (by omega)) hs (fun p hp h hh => by rw [f' 101 (by omega)]; exact hB p hp h hh) l' (fun ok => b1 (h1 M' v f' hv ok (okCr_first no) l')) (fun nok => b0 ?_)
      refine s_nextLights hm hv l' (fun M2 f2 hv2 l2 => b1 ?_) (fun top => b0 (h0 M' f' (fun w hw => okCr_first (V := 9 ^ m) (fun w hnd hw => ?_) w hw)))
      · rw [nI_1]
        refine ih M2 (f'.tr f2) l2 hv2 (fun w hnd hw => ?_)
        rcases Nat.lt_or_ge v w with y | y
        · have hg := nx_least m v w hnd (by omega) y
          omega
        · by_cases z : w = v
          · rw [z]; exact nok
          · exact no w hnd (by omega)
      · by_cases z : w = v
        · rw [z]; exact nok
        · exact no w hnd (by omega)
  refine up_ind m (fun i => ∀ M', fr 100 101 M M' → (∀ j, j < i → M' 100 j = nI 1) → G κ mX1_findLights 3 [.ref 99, .ref 13, .int (nI set), .int (nI m), .int (nI i)] [] M' Q) ?_ ?_ 0 (Nat.zero_le _) M fr.rf (fun j hj => absurd hj (by omega))
  · intro M' f' l'
    refine bX1_findLights_3 13 stO_13 _ _ _ ⟨fun _ => tries 0 (by decide) M' f' (fun i hi => ?_) hp9 (fun w _ hw => absurd hw (Nat.not_lt_zero _)), fun c => absurd (Int32.le_refl _) c⟩
    show _ = nI (dg m 0 i + 1)
    rw [dg_0]; exact l' i hi
  · intro i hi ih M' f' l'
    refine bX1_findLights_3 13 stO_13 _ _ _ ⟨fun c => absurd c (nI_ge hi (by omega)), fun _ => ⟨vp_in_nI (by omega) (by decide), ?_⟩⟩
    rw [tNI (by omega)]
    rintro M2 e2
    rw [nI_1]
    refine ih M2 (by rw [e2]; exact f'.pt (by omega) (by omega)) (fun j hj => ?_)
    by_cases z : j = i
    · rw [z, e2, pt_s]; rfl
    · rw [e2, pt_k _ _ z]; exact l' j (by omega)
theorem s_fewest {set : Nat} (hT : Tw M 1 t) (ht : twOk t) (hn : 2 ≤ t.1) (hset : set < 2 ^ t.2.2.1) (hS : Sv M 13 s) (hs : stOk t s) (h1 : ∀ M' m v, fr 100 102 M M' → m ≤ 5 → v < 9 ^ m → okCr t s set m v → (∀ w, w < v → ¬ okCr t s set m w) → (∀ j, j < m → ∀ w, w < 9 ^ j → ¬ okCr t s set j w) → LiC M' m v → Q (nI m) M') (h0 : ∀ M', fr 100 102 M M' → (∀ j, j ≤ 5 → ∀ w, w < 9 ^ j → ¬ okCr t s set j w) → Q (-1) M') : Cl κ mX1_fewest [.ref 99, .ref 1, .ref 13, .int (nI set)] M Q := by
  refine eX1_fewest 1 13 _ (bX1_fewest_0 1 13 twO_1 stO_13 _ (s_fillBehind hT ht hn hS hs (fun M1 f1 b1 => ?_)))
  refine up_ind 6 (fun m => ∀ M', fr 100 102 M M' → BhC t s M' → (∀ j, j < m → ∀ w, w < 9 ^ j → ¬ okCr t s set j w) → G κ mX1_fewest 9 [.ref 99, .null, .ref 13, .int (nI set), .int (nI m)] [] M' Q) ?_ ?_ 0 (by decide) M1 (f1.up (by omega) (by omega)) b1 (fun j hj => absurd hj (by omega))
  · intro M' f' _ no
    exact bX1_fewest_9 1 13 twO_1 stO_13 _ _ ⟨fun _ => h0 M' f' (fun j hj => no j (by omega)), fun c => absurd (by decide) c⟩
  · intro m hm ih M' f' b' no
    refine bX1_fewest_9 1 13 twO_1 stO_13 _ _ ⟨fun c => ?_, fun _ => s_findLights (by omega) ht hn hset (hS.fr f' (by omega)) hs b' (fun M2 v f2 hv ok first l2 => ?_) (fun M2 f2 none => b0 ?_)⟩
    · have := (nI_ltI (a := 5) (by decide) (by omega)).mp c
      omega
    · exact ⟨fun e => absurd e (by decide), fun _ => h1 M2 m v (f'.tr (f2.up (by omega) (by omega))) (by omega) hv ok first no l2⟩
    · rw [nI_1]
      refine ih M2 (f'.tr (f2.up (by omega) (by omega))) (fun p hp h hh => by rw [f2 101 (by omega)]; exact b' p hp h hh) (fun j hj => ?_)
      by_cases z : j = m
      · subst z; exact none
      · exact no j (by omega)
theorem s_figures {m v : Nat} (hm : m ≤ 5) (hL : LiC M m v) (h : Q (nI (fg m v)) M) : Cl κ mX1_figures [.ref 99, .int (nI m)] M Q := by
  refine eX1_figures _ (bX1_figures_0 _ ?_)
  refine up_ind m (fun i => G κ mX1_figures 4 [.ref 99, .int (nI m), .int (nI (fg i (v / 9 ^ (m - i)))), .int (nI i)] [] M Q) ?_ ?_ 0 (Nat.zero_le _)
  · rw [Nat.sub_self, Nat.pow_zero, Nat.div_one]
    exact bX1_figures_4 _ _ _ ⟨fun _ => bX1_figures_32 _ h, fun c => absurd (Int32.le_refl _) c⟩
  · intro i hi ih
    rw [fg_pre hi] at ih
    refine bX1_figures_4 _ _ _ ⟨fun c => absurd c (nI_ge hi (by omega)), fun _ => ⟨fun c => absurd c (nI_ge (b := 5) (by omega) (by decide)), fun _ => ⟨vp_in_nI (by omega) (by decide), ?_⟩⟩⟩
    rw [tNI (by omega), hL i hi, show (10 : Int32) = nI 10 from rfl, pk_mul, nI_add]
    rintro v1 rfl
    rw [nI_1, Nat.add_comm (dg m v i) 1]; exact ih
end Crows2
