/-! kept LAWS and GIANTS of the model -/
theorem fr_cd {W : List Nat} {σ τ : hSt} (h : fr W σ τ) {r j : Nat} (q : cd r j ∉ W) : τ.1 r j = σ.1 r j := h.1 r j q
/-- text of place k: its bytes and how many -/
def kpM (B : Nat → Nat) (n k : Nat) (τ : hSt) : Prop := k < 24 ∧ n ≤ 200 ∧ τ.1 212 k = i32 (n : Int) ∧ ∀ j, j < n → τ.1 211 (200 * k + j) = i32 (sgB (B j)) ∧ 1 ≤ B j ∧ B j ≤ 255
theorem p_mworthOf {B : Nat → Nat} {n k g F : Nat} {L : Nat → Int64} {Z : hZ} {lab : Int} {τ : hSt} (hF : 300 ≤ F) (hg : g ≤ 1) (hlab : 0 ≤ lab ∧ lab ≤ 255) (hk : kpM B n k τ) (hl : ltM g L τ) (hx : txF B n g = none) : ∃ υ, f_X12_worthOf F Z τ (i32 (k : Int)) (i32 (g : Int)) (i32 lab) = some (lwS L lab (tZc B n g), υ) ∧ fr WG τ υ := by
  obtain ⟨k1, k2, k3, k4⟩ := hk
  obtain ⟨υ, e1, e2, e3, e4⟩ := p_goThrough (Z := Z) (r := 211) (bs := 200 * k) hF hg hlab ⟨k2, rfl, by unfold blen; rw [if_neg (by decide)]; omega, k4⟩ hl
  refine ⟨υ, ?_, e2⟩
  have eb : (200 : Int32) * i32 (k : Int) = i32 ((200 * k : Nat) : Int) := by rw [show (200 : Int32) = i32 200 from rfl, i32_mul]; congr 1
  have x0 : ¬ (i32 (k : Int) < (0 : Int32) ∨ 24 ≤ k) := by rw [show (0 : Int32) = i32 0 from rfl, i32_lt (by omega)]; omega
  unfold f_X12_worthOf
  rw [i32_cn (by omega), if_neg x0, k3, eb, e1, obs]
  dsimp only
  rw [e4 hx]
