section Start1
theorem IV_M0 : IV M0 := by
  have no : ∀ {P : Prop} {j : Nat}, j < 0 → P := fun h => absurd h (Nat.not_lt_zero _)
  refine ⟨(0, 0, 0, 0, fun _ => 0, fun _ => 0), (0, 0, fun _ => 0, fun _ => 0, fun _ => 0), 0, fun _ => (0, 0, fun _ => 0, fun _ => 0, fun _ => 0), ((fun _ => false, fun _ => (0, 0, fun _ => 0, fun _ => 0, fun _ => 0), fun _ => 0), (0, fun _ => 0), -1, 0, (0, fun _ => 0, fun _ => 0), (0, fun _ => 0, fun _ => 0, fun _ => 0), (0, fun _ => 0, fun _ => 0, fun _ => 0)), ?_, ?_, ?_, ?_, ?_, ?_, ?_, ?_, ?_, ?_⟩
  · exact ⟨Or.inl ⟨rfl, rfl, rfl, rfl⟩, Nat.zero_le _, Nat.zero_le _, fun p h => no h, fun p h => no h⟩
  · exact ⟨⟨Nat.zero_le _, Nat.le_of_ble_eq_true rfl, fun _ => Nat.le_of_ble_eq_true rfl, fun p h => no h, fun p _ => rfl, fun _ => Nat.zero_le _, fun _ => Nat.zero_le _⟩, Nat.zero_le _⟩
  · exact fun j h => no h
  · exact ⟨fun i _ h => (by cases h), ⟨Nat.zero_le _, fun i h => no h⟩, Nat.le_of_ble_eq_true rfl, ⟨Nat.zero_le _, fun i h => no h⟩, ⟨Nat.zero_le _, fun i h => no h⟩, ⟨Nat.zero_le _, fun i h => no h⟩⟩
  · exact ⟨rfl, rfl, fun p _ => ⟨rfl, rfl, rfl⟩⟩
  · exact ⟨Nat.zero_le _, 0, Nat.le_of_ble_eq_true rfl, rfl, rfl, fun j h => no h⟩
  · exact ⟨⟨rfl, rfl, rfl, rfl, fun p h => no h, fun p h => no h⟩, fun i _ => ⟨rfl, fun h => (by cases h)⟩, ⟨rfl, fun i h => no h⟩, rfl, rfl, ⟨rfl, fun i h => no h⟩, ⟨rfl, fun i h => no h⟩, ⟨rfl, fun i h => no h⟩, fun k _ _ => rfl⟩
  · exact ⟨rfl, rfl, fun p _ => ⟨rfl, rfl, rfl⟩⟩
  · exact ⟨Nat.zero_le _, rfl, fun j h => no h⟩
  · exact ⟨⟨rfl, rfl, rfl, rfl, fun p h => no h, fun p h => no h⟩, fun i _ => ⟨rfl, fun h => (by cases h)⟩, ⟨rfl, fun i h => no h⟩, rfl, rfl, ⟨rfl, fun i h => no h⟩, ⟨rfl, fun i h => no h⟩, ⟨rfl, fun i h => no h⟩⟩
theorem cell_cut (cA : ClassId) (n : Nat) (f : Nat → Nat) : vp_cell cA (n, .inr (.inr (.inr (.inr (fun j => if j < n then some (f j) else none))))) = vp_cell cA (n, .inr (.inr (.inr (.inr (fun j => some (f j)))))) := by
  rw [vp_cell_q, vp_cell_q]
  have e : (fun j : Fin n => va_rf (if j.val < n then some (f j.val) else none)) = (fun j : Fin n => va_rf (some (f j.val))) := by
    funext j
    rw [if_pos j.isLt]
  unfold arrV
  rw [e]
theorem eT_cont {D : va_G} {τ : gT} {u : Nat → Nat} {c : Nat} {H : Heap} (h : va_at D classes (u c, eT τ u c) H) : va_at D classes (u c, cont (D, u, τ.1, τ.2.1, τ.2.2) M0 c) H := by
  unfold eT at h
  unfold cont
  split at h
  · rename_i ci hs
    rw [hs]
    exact h
  · rename_i n hs
    rw [hs]
    exact h
  · rename_i n hs
    rw [hs]
    exact h
  · rename_i a n h1 h2 h3 hs
    have h : H[u c]? = some (vp_cell τ.2.2 (n, .inr (.inr (.inr (.inr (fun j => if j < n then some (u (rac c j)) else none)))))) := h
    rw [cell_cut] at h
    split
    · rename_i heq; rw [hs] at heq; cases heq; exact absurd rfl h1
    · rename_i heq; rw [hs] at heq; cases heq; exact absurd rfl h2
    · rename_i heq; rw [hs] at heq; cases heq; exact absurd rfl h3
    · rename_i heq; rw [hs] at heq; cases heq; exact h
theorem wP_blk {D : va_G} {τ : gT} {u : Nat → Nat} {H : Heap} (hP : va_P D classes (blk τ u 0 135) H) : wP (D, u, τ.1, τ.2.1, τ.2.2) M0 H := by
  intro k q hk
  have hlt : k < nC := by have := (List.getElem?_eq_some_iff.mp hk).1; simpa [wrld] using this
  rw [wrld_at _ M0 hlt] at hk
  cases hk
  have h := hP k _ (blk_at τ u 0 (show k < 135 from hlt))
  rw [Nat.zero_add] at h
  exact eT_cont h
end Start1
