def caK : Nat → Nat → List (Nat × List Nat) → Bool
  | 0, _, _ => true
  | f + 1, m, [] => chkA QP m [] && caK f (m + 2) []
  | f + 1, m, e :: t => bif Nat.beq m e.1 then chkA QP m e.2 && caK f (m + 2) t else chkA QP m [] && caK f (m + 2) (e :: t)
theorem caK_ok : ∀ f m l, caK f m l = true → ∀ i, i < f → ∃ ps, chkA QP (m + 2 * i) ps = true
  | 0, m, l, _, i, hi => absurd hi (by omega)
  | f + 1, m, [], h, i, hi => by
    rw [caK, Bool.and_eq_true] at h
    cases i with
    | zero => exact ⟨[], h.1⟩
    | succ i =>
      have := caK_ok f (m + 2) [] h.2 i (by omega)
      rw [show m + 2 + 2 * i = m + 2 * (i + 1) by omega] at this
      exact this
  | f + 1, m, e :: t, h, i, hi => by
    rw [caK] at h
    cases c : Nat.beq m e.1 with
    | true =>
      rw [c] at h
      simp only [cond_true, Bool.and_eq_true] at h
      cases i with
      | zero => exact ⟨e.2, h.1⟩
      | succ i =>
        have := caK_ok f (m + 2) t h.2 i (by omega)
        rw [show m + 2 + 2 * i = m + 2 * (i + 1) by omega] at this
        exact this
    | false =>
      rw [c] at h
      simp only [cond_false, Bool.and_eq_true] at h
      cases i with
      | zero => exact ⟨[], h.1⟩
      | succ i =>
        have := caK_ok f (m + 2) (e :: t) h.2 i (by omega)
        rw [show m + 2 + 2 * i = m + 2 * (i + 1) by omega] at this
        exact this
