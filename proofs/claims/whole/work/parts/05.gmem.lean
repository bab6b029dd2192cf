section GMem
variable {κ : gK} {μ : gM} {pc : Nat} {L S : List Value} {M : MM} {Q : Int32 → MM → Prop}
theorem fs_at (κ : gK) (M : MM) {ci c k n : Nat} (hk : k < n) : ((List.range n).map (fldV κ M ci c))[k]? = some (fldV κ M ci c k) := by
  simp [List.getElem?_map, List.getElem?_range hk]
/-- an int field read -/
theorem g_getI {c ci k index : Nat} {C : String} {T : u_T} {N : Nat} (hd : decode μ.2.1 pc = .ok (.getfield index, 3)) (hs : shp c = (0, ci)) (hc : classes[ci]? = some (C, T, N)) (hin : ∀ w ∈ u_ws C T N, w ∈ tbG) (hk : k < N) (hr : isR ci k = false) (hl : Cond.fieldLink μ.1.cls index (T k).1 (T k).2.1 (T k).2.2.1 ∈ tbG)
    (kk : G κ μ (pc + 3) L (.int (M c k) :: S) M Q) : G κ μ pc L (.ref c :: S) M Q := by
  intro p l e s m args below meth cd H locs ls hB hP hS hL
  have hlt := shp_lt hs (by simp)
  have hw := wrld_at κ M hlt
  rw [cont_o κ M hs] at hw
  refine va_get hB.1 hB.2.1 hB.2.2.2.2.2.1 hin hB.2.2.2.2.1 hB.2.2.2.2.2.2.2.1 hP c hw hc k hk (hB.2.2.2.2.2.1 _ hl) (fun _ h => h) (v := .int (M c k)) ?_ hd (kk p l e s m args below meth cd H locs ls hB hP hS hL)
  rw [cls_at hc, fs_at κ M hk]
  simp [fldV, hr]
/-- a reference field read -/
theorem g_getR {c ci k d index : Nat} {C : String} {T : u_T} {N : Nat} (hd : decode μ.2.1 pc = .ok (.getfield index, 3)) (hs : shp c = (0, ci)) (hc : classes[ci]? = some (C, T, N)) (hin : ∀ w ∈ u_ws C T N, w ∈ tbG) (hk : k < N) (hr : isR ci k = true) (hl : Cond.fieldLink μ.1.cls index (T k).1 (T k).2.1 (T k).2.2.1 ∈ tbG) (he : rtc ci c k = d)
    (kk : G κ μ (pc + 3) L (.ref d :: S) M Q) : G κ μ pc L (.ref c :: S) M Q := by
  subst he
  intro p l e s m args below meth cd H locs ls hB hP hS hL
  have hlt := shp_lt hs (by simp)
  have hw := wrld_at κ M hlt
  rw [cont_o κ M hs] at hw
  refine va_get hB.1 hB.2.1 hB.2.2.2.2.2.1 hin hB.2.2.2.2.1 hB.2.2.2.2.2.2.2.1 hP c hw hc k hk (hB.2.2.2.2.2.1 _ hl) (fun _ h => h) (v := .ref (κ.2.1 (rtc ci c k))) ?_ hd (kk p l e s m args below meth cd H locs ls hB hP hS hL)
  rw [cls_at hc, fs_at κ M hk]
  simp [fldV, hr]
theorem fs_set (κ : gK) (M : MM) {ci c k n : Nat} (hr : isR ci k = false) (x : Int32) : ((List.range n).map (fldV κ M ci c)).set k (.int x) = (List.range n).map (fldV κ (sC M c (upd (M c) k x)) ci c) := by
  apply List.ext_getElem?
  intro j
  rcases Nat.lt_or_ge j n with hj | hj
  · rw [fs_at κ _ hj]
    by_cases e : j = k
    · subst e
      rw [List.getElem?_set_self (by simpa using hj)]
      simp [fldV, hr, sC_s, upd]
    · rw [List.getElem?_set_ne (Ne.symm e), fs_at κ M hj]
      simp [fldV, sC_s, upd, e]
  · rw [List.getElem?_eq_none (by simpa using hj), List.getElem?_eq_none (by simpa using hj)]
/-- an int field written -/
theorem g_put {c ci k index : Nat} {x : Int32} {C : String} {T : u_T} {N : Nat} (hd : decode μ.2.1 pc = .ok (.putfield index, 3)) (hs : shp c = (0, ci)) (hc : classes[ci]? = some (C, T, N)) (hin : ∀ w ∈ u_ws C T N, w ∈ tbG) (ty0 : Nat → FieldType) (hty : ∀ k, k < N → parseFieldDescriptor (T k).2.2.1 = some (ty0 k)) (hnm : ∀ a, a < N → ∀ b, b < N → a ≠ b → (T a).2.1 ≠ (T b).2.1) (hk : k < N) (hr : isR ci k = false) (hl : Cond.fieldLink μ.1.cls index (T k).1 (T k).2.1 (T k).2.2.1 ∈ tbG) (hfin : (T k).2.2.2 = false) (hdd : parseFieldDescriptor (T k).2.2.1 = some .int)
    (kk : G κ μ (pc + 3) L S (sC M c (upd (M c) k x)) Q) : G κ μ pc L (.int x :: .ref c :: S) M Q := by
  intro p l e s m args below meth cd H locs ls hB hP hS hL
  have hlt := shp_lt hs (by simp)
  have hw := wrld_at κ M hlt
  rw [cont_o κ M hs] at hw
  refine va_put (v := .int x) hB.1 hB.2.1 hB.2.2.2.2.2.1 hin ty0 hty hnm hB.2.2.2.2.1 hB.2.2.2.2.2.2.2.1 hP (hB.2.2.2.2.2.2.2.D M) hS c hw hc k hk (hB.2.2.2.2.2.1 _ hl) (fun _ h => h) hfin hdd rfl rfl (by rw [cls_at hc]; simpa using hk) hd (fun H1 locs1 hP1 _ hS1 => ?_)
  refine kk p l e s m args below meth cd H1 locs1 ls hB ?_ hS1 hL
  rw [fs_set κ M hr x, wrld_set κ (M' := sC M c (upd (M c) k x)) (fun d hne => sC_n M _ hne) (by rw [cont_o κ _ hs])] at hP1
  exact hP1
theorem g_iald {c n : Nat} {i : Int32} (hd : decode μ.2.1 pc = .ok (.iaload, 1)) (hs : shp c = (1, n)) (hi : vp_in i n) (kk : G κ μ (pc + 1) L (.int (M c i.toNatClampNeg) :: S) M Q) : G κ μ pc L (.int i :: .ref c :: S) M Q := by
  intro p l e s m args below meth cd H locs ls hB hP hS hL
  have hw := wrld_at κ M (shp_lt hs (by simp))
  rw [cont_i κ M hs] at hw
  exact va_iald hB.1 hB.2.1 hB.2.2.2.2.2.2.2.1 hP c 0 hw rfl hi hd (kk p l e s m args below meth cd H locs ls hB hP hS hL)
theorem g_zald {c n : Nat} {i : Int32} (hd : decode μ.2.1 pc = .ok (.baload, 1)) (hs : shp c = (2, n)) (hi : vp_in i n) (kk : G κ μ (pc + 1) L (.int (M c i.toNatClampNeg) :: S) M Q) : G κ μ pc L (.int i :: .ref c :: S) M Q := by
  intro p l e s m args below meth cd H locs ls hB hP hS hL
  have hw := wrld_at κ M (shp_lt hs (by simp))
  rw [cont_z κ M hs] at hw
  exact va_zald hB.1 hB.2.1 hB.2.2.2.2.2.2.2.1 hP c 1 hw rfl hi hd (kk p l e s m args below meth cd H locs ls hB hP hS hL)
theorem g_aald {c n d : Nat} {i : Int32} (hd : decode μ.2.1 pc = .ok (.aaload, 1)) (hs : shp c = (3, n)) (hi : vp_in i n) (he : rac c i.toNatClampNeg = d) (kk : G κ μ (pc + 1) L (.ref d :: S) M Q) : G κ μ pc L (.int i :: .ref c :: S) M Q := by
  subst he
  intro p l e s m args below meth cd H locs ls hB hP hS hL
  have hw := wrld_at κ M (shp_lt hs (by simp))
  rw [cont_q κ M hs] at hw
  exact va_aldq hB.1 hB.2.1 hB.2.2.2.2.2.2.2.1 hP c 2 hw rfl hi hd (kk p l e s m args below meth cd H locs ls hB hP hS hL)
theorem g_iast {c n : Nat} {i x : Int32} (hd : decode μ.2.1 pc = .ok (.iastore, 1)) (hs : shp c = (1, n)) (hi : vp_in i n) (kk : G κ μ (pc + 1) L S (sC M c (upd (M c) i.toNatClampNeg x)) Q) : G κ μ pc L (.int x :: .int i :: .ref c :: S) M Q := by
  intro p l e s m args below meth cd H locs ls hB hP hS hL
  have hw := wrld_at κ M (shp_lt hs (by simp))
  rw [cont_i κ M hs] at hw
  refine va_iast hB.1 hB.2.1 hB.2.2.2.2.2.2.2.1 hP (hB.2.2.2.2.2.2.2.D M) hS c 0 hw rfl hi hd (fun H1 locs1 hP1 _ hS1 => ?_)
  refine kk p l e s m args below meth cd H1 locs1 ls hB ?_ hS1 hL
  rw [wrld_set κ (M' := sC M c (upd (M c) i.toNatClampNeg x)) (fun d hne => sC_n M _ hne) (by rw [cont_i κ _ hs, sC_s])] at hP1
  exact hP1
theorem g_zast {c n : Nat} {i x : Int32} (hd : decode μ.2.1 pc = .ok (.bastore, 1)) (hs : shp c = (2, n)) (hi : vp_in i n) (kk : G κ μ (pc + 1) L S (sC M c (upd (M c) i.toNatClampNeg (vp_nar .boolean x))) Q) : G κ μ pc L (.int x :: .int i :: .ref c :: S) M Q := by
  intro p l e s m args below meth cd H locs ls hB hP hS hL
  have hw := wrld_at κ M (shp_lt hs (by simp))
  rw [cont_z κ M hs] at hw
  refine va_zast hB.1 hB.2.1 hB.2.2.2.2.2.2.2.1 hP (hB.2.2.2.2.2.2.2.D M) hS c 1 hw rfl hi hd (fun H1 locs1 hP1 _ hS1 => ?_)
  refine kk p l e s m args below meth cd H1 locs1 ls hB ?_ hS1 hL
  rw [wrld_set κ (M' := sC M c (upd (M c) i.toNatClampNeg (vp_nar .boolean x))) (fun d hne => sC_n M _ hne) (by rw [cont_z κ _ hs, sC_s])] at hP1
  exact hP1
/-- the static table of kinds -/
theorem g_kinds {index : Nat} (hd : decode μ.2.1 pc = .ok (.getstatic index, 3)) (hl : Cond.fieldLink μ.1.cls index "GiltCockcrow$Shadows" "KINDS" "[I" ∈ tbG) (kk : G κ μ (pc + 3) L (.ref 999 :: S) M Q) : G κ μ pc L S M Q := by
  intro p l e s m args below meth cd H locs ls hB hP hS hL
  exact va_gets hB.1 hB.2.1 hB.2.2.2.2.2.2.2.2.1 hS hB.2.2.2.2.1 (hB.2.2.2.2.2.1 _ hl) (fun _ h => h) hd (kk p l e s m args below meth cd H locs ls hB hP hS hL)
theorem g_kindsLen (hd : decode μ.2.1 pc = .ok (.arraylength, 1)) (kk : G κ μ (pc + 1) L (.int 3 :: S) M Q) : G κ μ pc L (.ref 999 :: S) M Q := by
  intro p l e s m args below meth cd H locs ls hB hP hS hL
  exact va_tlen hB.1 hB.2.1 hB.2.2.2.2.2.2.2.2.2.1 hS rfl hd (kk p l e s m args below meth cd H locs ls hB hP hS hL)
theorem g_kindsAt {i : Int32} (hd : decode μ.2.1 pc = .ok (.iaload, 1)) (hi : vp_in i 3) (kk : G κ μ (pc + 1) L (.int ([0, 1, 3].getD i.toNatClampNeg 0) :: S) M Q) : G κ μ pc L (.int i :: .ref 999 :: S) M Q := by
  intro p l e s m args below meth cd H locs ls hB hP hS hL
  exact va_ti hB.1 hB.2.1 hB.2.2.2.2.2.2.2.2.2.1 hS hi rfl hd (kk p l e s m args below meth cd H locs ls hB hP hS hL)
/-- System.arraycopy between two rows of ints, from their beginnings -/
theorem g_copy {c d n0 n1 index : Nat} {n : Int32} (hd : decode μ.2.1 pc = .ok (.invokestatic index, 3)) (hl : Cond.methodLink μ.1.cls index arraycopyName ∈ tbG) (hw1 : Cond.native arraycopyName ∈ tbG) (hw2 : Cond.static arraycopyName ∈ tbG) (hw3 : Cond.initialized "java/lang/System" ∈ tbG) (hs0 : shp c = (1, n0)) (hs1 : shp d = (1, n1)) (hn : ¬ n < 0) (h4 : n.toNatClampNeg ≤ n0) (h5 : n.toNatClampNeg ≤ n1) (hlv : 1 ≤ μ.2.2.2.2) (hst : (S.map fun v => v.category).sum = 0)
    (kk : G κ μ (pc + 3) L S (sC M d (va_cpy (M c) (M d) 0 0 n.toNatClampNeg)) Q) : G κ μ pc L (.int n :: .int 0 :: .ref d :: .int 0 :: .ref c :: S) M Q := by
  intro p l e s m args below meth cd H locs ls hB hP hS hL
  have hwc := wrld_at κ M (shp_lt hs0 (by simp))
  have hwd := wrld_at κ M (shp_lt hs1 (by simp))
  rw [cont_i κ M hs0] at hwc
  rw [cont_i κ M hs1] at hwd
  have hst' : ((S.map (rv κ)).map fun v => v.category).sum = 0 := by rw [List.map_map, ← hst]; congr 1; apply List.map_congr_left; intro v _; exact rv_cat κ v
  have hl30 : 30 ≤ (rmL μ.2.2.2.2).locals := by show 30 ≤ 30 * μ.2.2.2.2; omega
  refine va_copyi hB.1 hB.2.1 (hB.2.2.2.1.trans hL.1.symm) hB.2.2.2.2.1 (hB.2.2.2.2.2.1 _ hl) (hB.2.2.2.2.2.1 _ hw1) (hB.2.2.2.2.2.1 _ hw2) (hB.2.2.2.2.2.1 _ hw3) hB.2.2.2.2.2.2.2.1 hP (hB.2.2.2.2.2.2.2.D M) hS c d 0 0 hwc hwd rfl rfl rfl (sp := 0) (dp := 0) (by decide) (by decide) hn (by simpa using h4) (by simpa using h5) (fun _ _ => rfl) hlv (Nat.le_trans (by rw [hst']; decide) hl30) hd (fun H1 locs1 hP1 _ hS1 => ?_)
  refine kk p l e s m args below meth cd H1 locs1 ls hB ?_ hS1 hL
  rw [wrld_set κ (M' := sC M d (va_cpy (M c) (M d) 0 0 n.toNatClampNeg)) (fun d hne => sC_n M _ hne) (by rw [cont_i κ _ hs1, sC_s]; rfl)] at hP1
  exact hP1
theorem g_max {index : Nat} {x y : Int32} (hd : decode μ.2.1 pc = .ok (.invokestatic index, 3)) (hl : Cond.methodLink μ.1.cls index Lib.Math.max.name ∈ tbG) (hw1 : Cond.static Lib.Math.max.name ∈ tbG) (hw2 : Cond.initialized "java/lang/Math" ∈ tbG) (hw3 : Cond.code Lib.Math.max.name Lib.Math.max.code 2 (some .int) ∈ tbG) (hlv : 1 ≤ μ.2.2.2.2) (hst : (S.map fun v => v.category).sum ≤ 8)
    (kk : G κ μ (pc + 3) L (.int (if x < y then y else x) :: S) M Q) : G κ μ pc L (.int y :: .int x :: S) M Q := by
  intro p l e s m args below meth cd H locs ls hB hP hS hL
  have hst' : ((S.map (rv κ)).map fun v => v.category).sum ≤ 8 := by rw [List.map_map]; refine Nat.le_trans (Nat.le_of_eq ?_) hst; congr 1; apply List.map_congr_left; intro v _; exact rv_cat κ v
  have hl30 : 30 ≤ (rmL μ.2.2.2.2).locals := by show 30 ≤ 30 * μ.2.2.2.2; omega
  exact va_mmax hB.1 hB.2.1 (hB.2.2.2.1.trans hL.1.symm) hB.2.2.2.2.1 (hB.2.2.2.2.2.1 _ hl) (hB.2.2.2.2.2.1 _ hw1) (hB.2.2.2.2.2.1 _ hw2) (hB.2.2.2.2.2.1 _ hw3) hlv (by omega) (Nat.zero_le _) (Nat.zero_le _) hd (kk p l e s m args below meth cd H locs ls hB hP hS hL)
theorem g_min {index : Nat} {x y : Int32} (hd : decode μ.2.1 pc = .ok (.invokestatic index, 3)) (hl : Cond.methodLink μ.1.cls index Lib.Math.min.name ∈ tbG) (hw1 : Cond.static Lib.Math.min.name ∈ tbG) (hw2 : Cond.initialized "java/lang/Math" ∈ tbG) (hw3 : Cond.code Lib.Math.min.name Lib.Math.min.code 2 (some .int) ∈ tbG) (hlv : 1 ≤ μ.2.2.2.2) (hst : (S.map fun v => v.category).sum ≤ 8)
    (kk : G κ μ (pc + 3) L (.int (if y < x then y else x) :: S) M Q) : G κ μ pc L (.int y :: .int x :: S) M Q := by
  intro p l e s m args below meth cd H locs ls hB hP hS hL
  have hst' : ((S.map (rv κ)).map fun v => v.category).sum ≤ 8 := by rw [List.map_map]; refine Nat.le_trans (Nat.le_of_eq ?_) hst; congr 1; apply List.map_congr_left; intro v _; exact rv_cat κ v
  have hl30 : 30 ≤ (rmL μ.2.2.2.2).locals := by show 30 ≤ 30 * μ.2.2.2.2; omega
  exact va_mmin hB.1 hB.2.1 (hB.2.2.2.1.trans hL.1.symm) hB.2.2.2.2.1 (hB.2.2.2.2.2.1 _ hl) (hB.2.2.2.2.2.1 _ hw1) (hB.2.2.2.2.2.1 _ hw2) (hB.2.2.2.2.2.1 _ hw3) hlv (by omega) (Nat.zero_le _) (Nat.zero_le _) hd (kk p l e s m args below meth cd H locs ls hB hP hS hL)
/-- the ends -/
theorem g_iret {x : Int32} (hd : decode μ.2.1 pc = .ok (.ireturn, 1)) (hr : μ.2.2.2.1 = some .int) (hq : Q x M) : G κ μ pc L [.int x] M Q := by
  intro p l e s m args below meth cd H locs ls hB hP hS hL
  refine W.iret hB.1 hB.2.1 (hB.2.2.1.trans hr) (fun t ht hW => ?_) hS.2.2 hd (hlocks := hB.2.2.2.2.2.2.1)
  unfold FQ
  rw [hr]
  exact ⟨⟨x, M, rfl, hq, by unfold Bw; rw [ht]; exact hP⟩, hS.F ht⟩
theorem g_zret {x : Int32} (hd : decode μ.2.1 pc = .ok (.ireturn, 1)) (hr : μ.2.2.2.1 = some .boolean) (hn : narrow .boolean (.int x) = .int x) (hq : Q x M) : G κ μ pc L [.int x] M Q := by
  intro p l e s m args below meth cd H locs ls hB hP hS hL
  refine W.zret hB.1 hB.2.1 (hB.2.2.1.trans hr) hn (fun t ht hW => ?_) hS.2.2 hd (hlocks := hB.2.2.2.2.2.2.1)
  unfold FQ
  rw [hr]
  exact ⟨⟨x, M, rfl, hq, by unfold Bw; rw [ht]; exact hP⟩, hS.F ht⟩
theorem g_vret (hd : decode μ.2.1 pc = .ok (.return_, 1)) (hr : μ.2.2.2.1 = none) (hq : Q 0 M) : G κ μ pc L [] M Q := by
  intro p l e s m args below meth cd H locs ls hB hP hS hL
  refine W.vret hB.1 hB.2.1 (hB.2.2.1.trans hr) (fun t ht hW => ?_) hS.2.2 hd (hlocks := hB.2.2.2.2.2.2.1)
  unfold FQ
  rw [hr]
  exact ⟨⟨M, rfl, hq, by unfold Bw; rw [ht]; exact hP⟩, hS.F ht⟩
end GMem
