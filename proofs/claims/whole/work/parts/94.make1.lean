/-! MAKING: what constructors make stands at addresses that go up by one -/
def sq (h : Nat) : List va_E → va_W
  | [] => []
  | e :: es => (h, e) :: sq (h + 1) es
theorem sq_len : ∀ (es : List va_E) (h : Nat), (sq h es).length = es.length := by
  intro es
  induction es with
  | nil => intro h; rfl
  | cons e es ih => intro h; show (sq (h + 1) es).length + 1 = es.length + 1; rw [ih]
theorem sq_get : ∀ (es : List va_E) (h i : Nat), (sq h es)[i]? = (es[i]?).map (fun e => (h + i, e)) := by
  intro es
  induction es with
  | nil => intro h i; simp [sq]
  | cons e es ih =>
    intro h i
    cases i with
    | zero => simp [sq]
    | succ i =>
      show (sq (h + 1) es)[i]? = _
      rw [ih]
      simp [Nat.add_assoc, Nat.add_comm 1 i]
theorem sq_app : ∀ (es fs : List va_E) (h : Nat), sq h (es ++ fs) = sq h es ++ sq (h + es.length) fs := by
  intro es
  induction es with
  | nil => intro fs h; rfl
  | cons e es ih =>
    intro fs h
    show (h, e) :: sq (h + 1) (es ++ fs) = (h, e) :: (sq (h + 1) es ++ sq (h + (es.length + 1)) fs)
    rw [ih, show h + 1 + es.length = h + (es.length + 1) by omega]
theorem sq_D {A : Nat → Prop} {h : Nat} (hA : ∀ q, h ≤ q → A q) (es : List va_E) : va_D A (sq h es) := by
  refine ⟨fun i j p q hp hq e => ?_, fun k q hq => ?_⟩
  · rw [sq_get] at hp hq
    obtain ⟨x, _, rfl⟩ := Option.map_eq_some_iff.mp hp
    obtain ⟨y, _, rfl⟩ := Option.map_eq_some_iff.mp hq
    have e : h + i = h + j := e
    omega
  · rw [sq_get] at hq
    obtain ⟨x, _, rfl⟩ := Option.map_eq_some_iff.mp hq
    exact hA _ (by omega)
theorem sq_set : ∀ (es : List va_E) (h i : Nat) (e : va_E), (sq h es).set i (h + i, e) = sq h (es.set i e) := by
  intro es
  induction es with
  | nil => intro h i e; rfl
  | cons x es ih =>
    intro h i e
    cases i with
    | zero => rfl
    | succ i =>
      show (h, x) :: (sq (h + 1) es).set i (h + (i + 1), e) = (h, x) :: sq (h + 1) (es.set i e)
      rw [← ih, show h + 1 + i = h + (i + 1) by omega]
