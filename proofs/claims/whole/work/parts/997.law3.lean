section Law3
/-- a constructor called anywhere -/
theorem ct_callW {p : Program} {l : Launch} {e : Env} {R : Room} {s : State} {m : MethodId} {args : Array Value} {below : List Frame} {meth : Method} {c : Code} {H : Heap} {locs : List Loc} {cells slots : Nat} {Q : State → Prop} {cc : ByteArray} {nL pc : Nat} {ls : Array Slot} {S : List Value} {own : String} {D : va_G} {τ : gT} {A : Nat → Prop} {μ' : gM} {rm : Room} {mc' ms' ci q c0 n idx : Nat} {fs : List Value} {wr : va_W} {nl' : gNl}
    (hx : p.tables.exec = Jvm.exec) (hb : c.code = cc) (hml : c.maxLocals = nL) (hown : s.vm.findClass own = some m.cls) (ok : ∀ w ∈ tbG, w.before args s = true) (hZ : Zn nl' s) (hK : va_K D classes (tYs τ) s) (hP : va_P D classes (wr ++ [(q, .inr (ci, fs))]) H) (hD : va_D A (wr ++ [(q, .inr (ci, fs))])) (hS : va_S A s.heap H locs) (hA : ∀ q, s.heap.size ≤ q → A q) (hls : ls.size = nL)
    (hct : Ct D τ (Zn nl') μ' rm mc' ms' ci fs c0 n) (hd : decode cc pc = .ok (.invokespecial idx, 3)) (hl : Cond.methodLink own idx μ'.1 ∈ tbG) (hcode : Cond.code μ'.1 μ'.2.1 μ'.2.2.1 none ∈ tbG) (hret : μ'.2.2.2.1 = none) (hini : Cond.initialized μ'.1.cls ∈ tbG) (hinst : Cond.instanceMethod μ'.1 ∈ tbG) (hnm : μ'.1.name = "<init>") (hPa : okP μ' 0) (hrc : rm.cells = mc') (hrs : rm.slots = ms') (hR : rm.frames + 1 ≤ R.frames ∧ 8 + (μ'.2.2.1 + 11) + rm.locals ≤ R.locals) (hcat : (S.map fun v => v.category).sum ≤ 8) (hc : cells + mc' ≤ R.cells) (hs : slots + ms' ≤ R.slots)
    (k : ∀ (u : Nat → Nat) (H1 : Heap) (locs1 : List Loc), u c0 = q → va_P D classes (wr ++ blk τ u c0 n) H1 → va_D A (wr ++ blk τ u c0 n) → va_S A s.heap H1 locs1 → W p l e R s m args below meth c H1 locs1 (cells + mc') (slots + ms') Q (F0 m (pc + 3) ls S)) : W p l e R s m args below meth c H locs cells slots Q (F0 m pc ls (.ref q :: S)) := by
  have hfr := ct_free (wr := wr) hD hS hA
  have hw : wsM μ' = Cond.code μ'.1 μ'.2.1 μ'.2.2.1 none :: tbG := by unfold wsM; rw [hret]
  refine va_callv (va_runI (As := []) (rest := S) (b := q) (n := 0) (bytes := μ'.2.1) (maxL := μ'.2.2.1) (index := idx) ⟨hx, hb, hml, hown, ok⟩ (hct l q H.size) ⟨callB_of 0 ok (wsM_good (by rw [hret]; exact hcode)) hw hrc hrs (ok _ hini) (ok _ hl) hPa hR, hnm, ok _ hinst⟩ ⟨ct_blind q H.size _, fun U hU hW => ⟨rfl, by rw [hU], ?_, va_K.moved hW.alike hK, ?_, hZ.warm hW⟩⟩ rfl rfl hls rfl (lv_room hcat) hd ⟨hc, hs⟩) hS (fun x _ h => hfr x h) hfr (fun _ t H1 locs1 ht hvm _ hB1 hz1 hk1 hS1 => ?_)
  · rw [hU]; exact fun k x hx => by
      have hk0 : k = 0 := by have := (List.getElem?_eq_some_iff.mp hx).1; simp at this; exact this
      subst hk0; simp at hx; subst hx
      exact hP wr.length _ (by simp)
  · refine ⟨fun i j a b hi hj _ => ?_, fun _ _ _ => trivial⟩
    have h1 := (List.getElem?_eq_some_iff.mp hi).1
    have h2 := (List.getElem?_eq_some_iff.mp hj).1
    simp at h1 h2; omega
  · obtain ⟨u, hu, hK1, hP1, hD1⟩ := hB1
    rw [ht] at hP1
    obtain ⟨hP2, hD2⟩ := ct_join hP hD hk1 hfr hP1 hD1
    exact k u H1 locs1 hu hP2 hD2 hS1
theorem law_tabs {s : State} {b : Nat} (hts : ∀ w ∈ lw_tbl, w.before #[Value.ref b] s = true) : ∃ (D : va_G) (τ : gT), va_K D classes (tYs τ) s ∧ Zn nlX10 s := by
  have ok : ∀ w ∈ tbG, w.before #[Value.ref b] s = true := fun w hw => hts w (List.mem_filter.mp hw).1
  obtain ⟨c0, i0, k0⟩ := u_known (C := RX0) (T := TX0) (N := 4) (n := 4) ok inG0 (ok _ wt_243)
  obtain ⟨c1, i1, k1⟩ := u_known (C := RX1) (T := TX1) (N := 2) (n := 2) ok inG1 (ok _ wt_170)
  obtain ⟨c2, i2, k2⟩ := u_known (C := RX2) (T := TX2) (N := 3) (n := 3) ok inG2 (ok _ wt_148)
  obtain ⟨c3, i3, k3⟩ := u_known (C := RX3) (T := TX3) (N := 6) (n := 6) ok inG3 (ok _ wt_217)
  obtain ⟨c4, i4, k4⟩ := u_known (C := RX4) (T := TX4) (N := 3) (n := 3) ok inG4 (ok _ wt_128)
  obtain ⟨c5, i5, k5⟩ := u_known (C := RX5) (T := TX5) (N := 5) (n := 5) ok inG5 (ok _ wt_73)
  obtain ⟨c6, i6, k6⟩ := u_known (C := RX6) (T := TX6) (N := 4) (n := 4) ok inG6 (ok _ wt_197)
  obtain ⟨c7, i7, k7⟩ := u_known (C := RX7) (T := TX7) (N := 2) (n := 2) ok inG7 (ok _ wt_183)
  obtain ⟨c8, i8, k8⟩ := u_known (C := RX8) (T := TX8) (N := 5) (n := 5) ok inG8 (ok _ wt_97)
  obtain ⟨c9, i9, k9⟩ := u_known (C := RX9) (T := TX9) (N := 8) (n := 8) ok inG9 (ok _ wt_25)
  obtain ⟨c10, i10, k10⟩ := u_known (C := RX10) (T := TX10) (N := 14) (n := 14) ok inG10 (ok _ wt_17)
  obtain ⟨c11, i11, k11⟩ := u_known (C := RX11) (T := TX11) (N := 32) (n := 32) ok inG11 (ok _ wt_763)
  obtain ⟨cI, kI, pI, fI, gI, jI⟩ := Cond.arrayClass_spec (ok (.arrayClass .int) (tbG_t (List.mem_of_getElem? (i := 71) (by decide +kernel)) (by decide +kernel)))
  obtain ⟨cZ, kZ, pZ, fZ, gZ, jZ⟩ := Cond.arrayClass_spec (ok (.arrayClass .boolean) (tbG_t (List.mem_of_getElem? (i := 168) (by decide +kernel)) (by decide +kernel)))
  have hAO : (Cond.arrayOver (.object RX8)).before #[Value.ref b] s = true := hts _ (List.mem_append_right _ (List.mem_of_getElem? (i := 134) (by decide +kernel)))
  obtain ⟨pS, cS, kS, f1, f2, f3, f4, f5⟩ := Cond.arrayOver_spec hAO
  refine ⟨(fun k => [c0, c1, c2, c3, c4, c5, c6, c7, c8, c9, c10, c11].getD k c0, fun k => [i0, i1, i2, i3, i4, i5, i6, i7, i8, i9, i10, i11].getD k i0), (cI, cZ, cS), ⟨fun k q hq => ?_, fun k q hq => ?_⟩, ?_⟩
  · match k, hq with
    | 0, hq => cases hq; exact k0
    | 1, hq => cases hq; exact k1
    | 2, hq => cases hq; exact k2
    | 3, hq => cases hq; exact k3
    | 4, hq => cases hq; exact k4
    | 5, hq => cases hq; exact k5
    | 6, hq => cases hq; exact k6
    | 7, hq => cases hq; exact k7
    | 8, hq => cases hq; exact k8
    | 9, hq => cases hq; exact k9
    | 10, hq => cases hq; exact k10
    | 11, hq => cases hq; exact k11
    | k + 12, hq => simp [classes] at hq
  · match k, hq with
    | 0, hq => cases hq; exact ⟨fun n z => ⟨fun k h => (by cases h), kI, gI, pI, jI⟩, fI⟩
    | 1, hq => cases hq; exact ⟨fun n z => ⟨fun k h => (by cases h), kZ, gZ, pZ, jZ⟩, fZ⟩
    | 2, hq => cases hq; exact ⟨fun n z => ⟨fun k h => (by cases h), kS, f3, pS, f4⟩, kS, pS, f3, f4, f1, f5⟩
    | k + 3, hq => simp [tYs] at hq
  · exact ⟨va_AO.of hAO, (List.forall_mem_cons.mpr ⟨va_Nw.of rfl (hts _ (List.mem_append_right _ (List.mem_of_getElem? (i := 26) (by decide +kernel)))), (List.forall_mem_cons.mpr ⟨va_Nw.of rfl (hts _ (List.mem_append_right _ (List.mem_of_getElem? (i := 74) (by decide +kernel)))), (List.forall_mem_cons.mpr ⟨va_Nw.of rfl (hts _ (List.mem_append_right _ (List.mem_of_getElem? (i := 98) (by decide +kernel)))), (List.forall_mem_cons.mpr ⟨va_Nw.of rfl (hts _ (List.mem_append_right _ (List.mem_of_getElem? (i := 171) (by decide +kernel)))), (List.forall_mem_cons.mpr ⟨va_Nw.of rfl (hts _ (List.mem_append_right _ (List.mem_of_getElem? (i := 184) (by decide +kernel)))), (List.forall_mem_cons.mpr ⟨va_Nw.of rfl (hts _ (List.mem_append_right _ (List.mem_of_getElem? (i := 198) (by decide +kernel)))), (List.forall_mem_cons.mpr ⟨va_Nw.of rfl (hts _ (List.mem_append_right _ (List.mem_of_getElem? (i := 218) (by decide +kernel)))), (List.forall_mem_cons.mpr ⟨va_Nw.of rfl (hts _ (List.mem_append_right _ (List.mem_of_getElem? (i := 244) (by decide +kernel)))), (List.forall_mem_cons.mpr ⟨va_Nw.of rfl (hts _ (List.mem_append_right _ (List.mem_of_getElem? (i := 135) (by decide +kernel)))), (List.forall_mem_cons.mpr ⟨va_Nw.of rfl (hts _ (List.mem_append_right _ (List.mem_of_getElem? (i := 154) (by decide +kernel)))), (fun _ h => by cases h)⟩)⟩)⟩)⟩)⟩)⟩)⟩)⟩)⟩)⟩)⟩
theorem law_kinds {s : State} {b : Nat} (hts : ∀ w ∈ lw_tbl, w.before #[Value.ref b] s = true) (hgv : (Jvm.Cond.and given_1 narrow_1).before #[Value.ref b] s = true) : ∃ t : Nat, va_Z "GiltCockcrow$Shadows" "KINDS" "[I" (.ref t) (fun q => s.heap.size ≤ q) s s.heap ∧ va_T .int t 3 (fun j => .int ([0, 1, 3].getD j 0)) (fun q => s.heap.size ≤ q) s s.heap := by
  have hA0 : ∀ a : Nat, a < s.heap.size → ¬ (fun q : Nat => s.heap.size ≤ q) a := fun a h => Nat.not_le.mpr h
  have hg := flat_of_before _ hgv
  have e0 : (Cond.arrayOf (Term.static "GiltCockcrow$Shadows" "KINDS" "[I") .int).before #[Value.ref b] s = true := hg _ (by decide +kernel)
  have e1 : (Cond.eq (Term.length (Term.static "GiltCockcrow$Shadows" "KINDS" "[I")) (Term.int 3)).before #[Value.ref b] s = true := hg _ (by decide +kernel)
  have e2 : (Cond.eq (Term.elem (Term.static "GiltCockcrow$Shadows" "KINDS" "[I") (Term.int 0)) (Term.int 0)).before #[Value.ref b] s = true := hg _ (by decide +kernel)
  have e3 : (Cond.eq (Term.elem (Term.static "GiltCockcrow$Shadows" "KINDS" "[I") (Term.int 1)) (Term.int 1)).before #[Value.ref b] s = true := hg _ (by decide +kernel)
  have e4 : (Cond.eq (Term.elem (Term.static "GiltCockcrow$Shadows" "KINDS" "[I") (Term.int 2)) (Term.int 3)).before #[Value.ref b] s = true := hg _ (by decide +kernel)
  obtain ⟨t, ht, hT⟩ := va_Tof (args := #[Value.ref b]) (s := s) (tm := Term.static "GiltCockcrow$Shadows" "KINDS" "[I") (ty := .int) (N := 3) (f := fun j => .int ([0, 1, 3].getD j 0)) (A := fun q => s.heap.size ≤ q) (by decide) e0 (va_eqt e1) (fun j hj => by
    rcases j with _ | _ | _ | j
    · exact va_eqt e2
    · exact va_eqt e3
    · exact va_eqt e4
    · omega) hA0
  exact ⟨t, va_Zof (hts _ (List.mem_append_right _ (List.mem_of_getElem? (i := 693) (by decide +kernel)))) (hts _ (List.mem_append_right _ (List.mem_of_getElem? (i := 9) (by decide +kernel)))) ht hA0, hT⟩
theorem ct_X11g {D : va_G} {τ : gT} {Z : State → Prop} : Ct D τ Z mX11_init ({ frames := 1, cells := 15, slots := 3475, locals := 60 }) 15 3475 11 [.int 0, .int 0, .int 0, .null, .null, .int 0, .null, .null, .int 0, .int 0, .int 0, .int 0, .int 0, .int 0, .int 0, .null, .null, .int 0, .null, .int 0, .int 0, .null, .null, .null, .int 0, .null, .int 0, .null, .null, .int 0, .null, .null] 119 16 := ct_X11 119 (fun _ _ _ _ _ _ _ _ _ _ _ _ _ _ _ _ => rfl)
/-- the addresses of the two objects' cells, of the script, of the table of kinds -/
def adL (u u1 : Nat → Nat) (b t : Nat) : Nat → Nat := fun d => if d = 998 then b else if d = 999 then t else if d < 119 then u d else u1 d
theorem adL_blk {τ : gT} {u u1 : Nat → Nat} {b t : Nat} : blk τ u 0 119 ++ blk τ u1 119 16 = blk τ (adL u u1 b t) 0 135 := by
  have h1 : ∀ d, d < 135 → adL u u1 b t d = if d < 119 then u d else u1 d := fun d hd => by
    unfold adL
    rw [if_neg (show ¬ d = 998 by omega), if_neg (show ¬ d = 999 by omega)]
  rw [show (135 : Nat) = 119 + 16 from rfl, blk_add]
  congr 1
  · exact blk_congr (lo := 0) (hi := 119) (by decide +kernel) (Nat.le_refl _) (Nat.le_refl _) (fun d _ hd => by rw [h1 d (by omega), if_pos hd])
set_option maxHeartbeats 4000000 in
/-- from the entry, for every script of at most 256 ints, the law comes to its end with true -/
theorem whole_start {p : Program} {e : Env} {s : State} {m : MethodId} {below : List Frame} {meth : Method} {c : Code} (l : Launch) {b L : Nat} {xs : Nat → Int32} (hL : L ≤ 256) (C0 : lw_At p s m meth c b L xs) : W p l e room_1 s m #[Value.ref b] below meth c s.heap [] 0 0 (lw_Z below #[Value.ref b] s) (entryFrame m ([Value.ref b] : List Value).toArray 4) := by
  obtain ⟨hx, hb, hr, hml, hown, hts, hX, hbl, hlocks, hgv⟩ := C0
  have hown : s.vm.findClass RL = some m.cls := hown
  have ok : ∀ w ∈ tbG, w.before #[Value.ref b] s = true := fun w hw => hts w (List.mem_filter.mp hw).1
  obtain ⟨D, τ, hK, hZn⟩ := law_tabs hts
  obtain ⟨tK, hZ, hT⟩ := law_kinds hts hgv
  have hA : ∀ q : Nat, s.heap.size ≤ q → (fun q : Nat => s.heap.size ≤ q) q := fun _ h => h
  have hS : va_S (fun q : Nat => s.heap.size ≤ q) s.heap s.heap [] := va_S.rf
  have hP : va_P D classes [] s.heap := fun k q h => by simp at h
  have hD : va_D (fun q : Nat => s.heap.size ≤ q) [] := ⟨fun i j p q h => by simp at h, fun k q h => by simp at h⟩
  have hl := lv_entry ([.ref b]) (n := 4) (Nat.le_of_ble_eq_true rfl)
  rw [lg_entry_eq]
  generalize (lg_sl ([.ref b]) ++ List.replicate (4 - (lg_sl ([.ref b])).length) Slot.unset).toArray = ls at hl ⊢
  have hl : lv_has ls 4 [(0, .ref b)] := hl
  refine va_new (ci := 10) (fs := [.null, .null, .null, .null, .null, .null, .null, .null, .null, .null, .null, .null, .int 0, .int 0]) (C := RX10) (T := TX10) (N := 14) hx hb ok inG10 tyX10 tyX10_ok hown (ok _ wt_16) (ok _ wt_17) (ok _ wt_1) hK hP hD hS hA rfl (fun k hk => by rcases k with _ | _ | _ | _ | _ | _ | _ | _ | _ | _ | _ | _ | _ | _ | k <;> first | rfl | omega) (Nat.le_of_ble_eq_true rfl) (Nat.le_of_ble_eq_true rfl) dL_law_0 (fun q0 H hP hD hS => ?_)
  refine lv_dup hx hb dL_law_3 rfl ?_
  refine ct_callW (μ' := mX10_init) (own := RL) hx hb hml hown ok hZn hK hP hD hS hA hl.1 ct_X10 dL_law_4 wt_18 wt_20 rfl wt_1 wt_19 rfl okp_X10_init rfl rfl ⟨Nat.le_of_ble_eq_true rfl, Nat.le_of_ble_eq_true rfl⟩ (Nat.le_of_ble_eq_true rfl) (Nat.le_of_ble_eq_true rfl) (Nat.le_of_ble_eq_true rfl) (fun u H1 locs1 hu hP hD hS => ?_)
  have hP : va_P D classes (blk τ u 0 119) H1 := hP
  have hD : va_D (fun q : Nat => s.heap.size ≤ q) (blk τ u 0 119) := hD
  refine lv_astore_n (lv' := [(1, .ref q0), (0, .ref b)]) hx hb dL_law_7 rfl hl (by decide) rfl (fun ls hl => ?_)
  refine va_new (ci := 11) (fs := [.int 0, .int 0, .int 0, .null, .null, .int 0, .null, .null, .int 0, .int 0, .int 0, .int 0, .int 0, .int 0, .int 0, .null, .null, .int 0, .null, .int 0, .int 0, .null, .null, .null, .int 0, .null, .int 0, .null, .null, .int 0, .null, .null]) (C := RX11) (T := TX11) (N := 32) hx hb ok inG11 tyX11 tyX11_ok hown (ok _ wt_762) (ok _ wt_763) (ok _ wt_12) hK hP hD hS hA rfl (fun k hk => by rcases k with _ | _ | _ | _ | _ | _ | _ | _ | _ | _ | _ | _ | _ | _ | _ | _ | _ | _ | _ | _ | _ | _ | _ | _ | _ | _ | _ | _ | _ | _ | _ | _ | k <;> first | rfl | omega) (Nat.le_of_ble_eq_true rfl) (Nat.le_of_ble_eq_true rfl) dL_law_8 (fun q1 H hP hD hS => ?_)
  refine lv_dup hx hb dL_law_11 rfl ?_
  refine ct_callW (μ' := mX11_init) (own := RL) hx hb hml hown ok (hZn.sub (nl' := []) (fun _ h => by cases h)) hK hP hD hS hA hl.1 ct_X11g dL_law_12 wt_764 wt_766 rfl wt_12 wt_765 rfl okp_X11_init rfl rfl ⟨Nat.le_of_ble_eq_true rfl, Nat.le_of_ble_eq_true rfl⟩ (Nat.le_of_ble_eq_true rfl) (Nat.le_of_ble_eq_true rfl) (Nat.le_of_ble_eq_true rfl) (fun u1 H1 locs1 hu1 hP hD hS => ?_)
  refine lv_astore_n (lv' := [(2, .ref q1), (1, .ref q0), (0, .ref b)]) hx hb dL_law_15 rfl hl (by decide) rfl (fun ls hl => ?_)
  refine lv_iconst (v := 0) hx hb dL_law_16 (by decide) ?_
  refine lv_istore_n (lv' := [(3, .int 0), (2, .ref q1), (1, .ref q0), (0, .ref b)]) hx hb dL_law_17 rfl hl (by decide) rfl (fun ls hl => ?_)
  refine W.widen (k := 135) (n := lawSl) (Nat.le_of_ble_eq_true rfl) (Nat.le_of_ble_eq_true rfl) ?_
  rw [adL_blk (b := b) (t := tK)] at hP hD
  have a0 : adL u u1 b tK 0 = q0 := hu
  have a1 : adL u u1 b tK 119 = q1 := hu1
  have a2 : adL u u1 b tK 998 = b := rfl
  have a3 : adL u u1 b tK 999 = tK := rfl
  generalize adL u u1 b tK = ad at hP hD a0 a1 a2 a3
  have hAA : ∀ q, kA (D, ad, τ.1, τ.2.1, τ.2.2) q → s.heap.size ≤ q := by
    rintro q ⟨c, hc, rfl⟩
    have := hD.2 c _ (blk_at τ ad 0 (show c < 135 from hc))
    rw [Nat.zero_add] at this
    exact this
  have hok : okK (D, ad, τ.1, τ.2.1, τ.2.2) s s.heap := by
    refine ⟨hK, ?_, ?_, fun i j hi hj h => ?_⟩
    · show va_Z "GiltCockcrow$Shadows" "KINDS" "[I" (.ref (ad 999)) _ _ _
      rw [a3]
      exact hZ.narrow hAA
    · show va_T .int (ad 999) 3 _ _ _ _
      rw [a3]
      exact hT.narrow hAA
    · have h : ad i = ad j := h
      exact hD.1 i j _ _ (blk_at τ ad 0 (show i < 135 from hi)) (blk_at τ ad 0 (show j < 135 from hj)) (by show ad (0 + i) = ad (0 + j); rw [Nat.zero_add, Nat.zero_add]; exact h)
  refine law_loop (κ := (D, ad, τ.1, τ.2.1, τ.2.2)) (N := L) (xs := xs) hL (L + 1) 0 M0 IV_M0 (by omega) (by omega) p l e s m #[Value.ref b] below meth c H1 locs1 ls ⟨hx, hb, hr, hml, hown, ok, hlocks, hok, ?_, ?_, hAA, ?_⟩ (wP_blk hP) hS ⟨hl.1, hl.2.1, fun i v h1 h2 => ?_⟩
  · show va_X (ad 998) L xs s s.heap
    rw [a2]
    exact hX
  · show ad 998 < s.heap.size
    rw [a2]
    exact hbl
  · show #[Value.ref b] = #[Value.ref (ad 998)]
    rw [a2]
  · match i, h1 with
    | 0, h1 =>
      cases h1
      show ls[0]? = some (.val (.ref (ad 998)))
      rw [a2]
      exact lv_at hl 3 rfl
    | 1, h1 =>
      cases h1
      show ls[1]? = some (.val (.ref (ad 0)))
      rw [a0]
      exact lv_at hl 2 rfl
    | 2, h1 =>
      cases h1
      show ls[2]? = some (.val (.ref (ad 119)))
      rw [a1]
      exact lv_at hl 1 rfl
    | 3, h1 =>
      cases h1
      exact lv_at hl 0 rfl
    | i + 4, h1 => cases h1
end Law3
