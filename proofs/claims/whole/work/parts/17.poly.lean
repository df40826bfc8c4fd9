/-! polynomials modulo a prime: as many roots as the row is long make it 0 -/
theorem nPr.eucI {p : Nat} (hp : nPr p) {a b : Int} (h : (p : Int) ∣ a * b) : (p : Int) ∣ a ∨ (p : Int) ∣ b := by
  have h1 : p ∣ (a * b).natAbs := Int.ofNat_dvd_left.mp h
  rw [Int.natAbs_mul] at h1
  rcases hp.euclid h1 with q | q
  · exact Or.inl (Int.ofNat_dvd_left.mpr q)
  · exact Or.inr (Int.ofNat_dvd_left.mpr q)
def pev : List Int → Int → Int
  | [], _ => 0
  | a :: l, x => a + x * pev l x
def ladd : List Int → List Int → List Int
  | [], m => m
  | l, [] => l
  | a :: l, b :: m => (a + b) :: ladd l m
theorem pev_add (x : Int) : ∀ l m, pev (ladd l m) x = pev l x + pev m x
  | [], m => by simp [ladd, pev]
  | a :: l, [] => by simp [ladd, pev]
  | a :: l, b :: m => by
    have := pev_add x l m
    simp only [ladd, pev, this]
    grind
theorem ladd_len {d : Nat} : ∀ l m : List Int, l.length ≤ d → m.length ≤ d → (ladd l m).length ≤ d
  | [], m, _, h => by simpa [ladd] using h
  | a :: l, [], h, _ => by simpa [ladd] using h
  | a :: l, b :: m, h1, h2 => by
    cases d with
    | zero => simp at h1
    | succ d =>
      have := ladd_len (d := d) l m (by simpa using h1) (by simpa using h2)
      simp [ladd]; omega
def lsm (c : Int) : List Int → List Int
  | [] => []
  | a :: l => (c * a) :: lsm c l
theorem pev_sm (c x : Int) : ∀ l, pev (lsm c l) x = c * pev l x
  | [] => by simp [lsm, pev]
  | a :: l => by
    have := pev_sm c x l
    simp only [lsm, pev, this]
    grind
theorem lsm_len (c : Int) : ∀ l, (lsm c l).length = l.length
  | [] => rfl
  | a :: l => by simp [lsm, lsm_len c l]
def lqo (a : Int) : List Int → List Int
  | [] => []
  | _ :: l => ladd l (lsm a (lqo a l))
theorem lqo_len (a : Int) : ∀ l, (lqo a l).length ≤ l.length - 1
  | [] => by simp [lqo]
  | b :: l => by
    have := lqo_len a l
    refine ladd_len _ _ (by simp) ?_
    rw [lsm_len]; simp; omega
theorem pev_qo (a x : Int) : ∀ l, pev l x = pev l a + (x - a) * pev (lqo a l) x
  | [] => by simp [pev, lqo]
  | b :: l => by
    have := pev_qo a x l
    simp only [pev, lqo, pev_add, pev_sm]
    grind
theorem pev_zero {p : Nat} (hp : nPr p) : ∀ (d : Nat) (l : List Int), l.length ≤ d → d ≤ p → (∀ i : Nat, i < d → (p : Int) ∣ pev l i) → ∀ x, (p : Int) ∣ pev l x := by
  intro d
  induction d with
  | zero =>
    intro l hl _ _ x
    have : l = [] := List.eq_nil_of_length_eq_zero (by omega)
    subst this
    exact Int.dvd_zero _
  | succ d ih =>
    intro l hl hd h x
    have hq : ∀ x, (p : Int) ∣ pev (lqo d l) x := ih _ (by have := lqo_len d l; omega) (by omega) (fun i hi => by
      have h1 := h i (by omega)
      rw [pev_qo d i l] at h1
      have h2 := (Int.dvd_add_right (h d (by omega))).mp h1
      rcases hp.eucI h2 with q | q
      · exfalso
        obtain ⟨z, hz⟩ := q
        have h3 : (p : Int) ∣ ((d - i : Nat) : Int) := ⟨-z, by rw [Int.mul_neg]; omega⟩
        have := Nat.le_of_dvd (by omega) (Int.natCast_dvd_natCast.mp h3)
        omega
      · exact q)
    rw [pev_qo d x l]
    exact Int.dvd_add (h d (by omega)) (Int.dvd_mul_of_dvd_right (hq x))
/-- f is a polynomial of so many numbers modulo p -/
def dP (p : Int) (d : Nat) (f : Int → Int) : Prop := ∃ l : List Int, l.length ≤ d ∧ ∀ x, p ∣ f x - pev l x
theorem dP_mono {p : Int} {d e : Nat} {f : Int → Int} (h : dP p d f) (hd : d ≤ e) : dP p e f := h.elim fun l q => ⟨l, Nat.le_trans q.1 hd, q.2⟩
theorem dP_const (p c : Int) : dP p 1 (fun _ => c) := ⟨[c], by simp, fun x => by simp [pev]⟩
theorem dP_add {p : Int} {d : Nat} {f g : Int → Int} (h : dP p d f) (k : dP p d g) : dP p d (fun x => f x + g x) := by
  obtain ⟨l, h1, h2⟩ := h
  obtain ⟨m, k1, k2⟩ := k
  refine ⟨ladd l m, ladd_len _ _ h1 k1, fun x => ?_⟩
  have := Int.dvd_add (h2 x) (k2 x)
  rw [pev_add, show f x + g x - (pev l x + pev m x) = f x - pev l x + (g x - pev m x) by omega]
  exact this
theorem dP_sm {p : Int} {d : Nat} {f : Int → Int} (c : Int) (h : dP p d f) : dP p d (fun x => c * f x) := by
  obtain ⟨l, h1, h2⟩ := h
  refine ⟨lsm c l, by rw [lsm_len]; exact h1, fun x => ?_⟩
  rw [pev_sm, ← Int.mul_sub]
  exact Int.dvd_mul_of_dvd_right (h2 x)
theorem dP_lin {p : Int} {d : Nat} {f : Int → Int} (a : Int) (h : dP p d f) : dP p (d + 1) (fun x => f x * (x - a)) := by
  obtain ⟨l, h1, h2⟩ := h
  refine ⟨ladd (0 :: l) (lsm (-a) l), ladd_len _ _ (by simpa using h1) (by rw [lsm_len]; omega), fun x => ?_⟩
  rw [pev_add, pev_sm]
  have : f x * (x - a) - (pev (0 :: l) x + -a * pev l x) = (f x - pev l x) * (x - a) := by
    simp only [pev]; grind
  rw [this]
  exact Int.dvd_mul_of_dvd_left (h2 x)
theorem dP_cong {p : Int} {d : Nat} {f g : Int → Int} (h : dP p d f) (e : ∀ x, p ∣ g x - f x) : dP p d g := by
  obtain ⟨l, h1, h2⟩ := h
  refine ⟨l, h1, fun x => ?_⟩
  rw [show g x - pev l x = (g x - f x) + (f x - pev l x) by omega]
  exact Int.dvd_add (e x) (h2 x)
theorem dP_uniq {p d : Nat} {f g : Int → Int} (hp : nPr p) (hd : d ≤ p) (hf : dP p d f) (hg : dP p d g) (h : ∀ i : Nat, i < d → (p : Int) ∣ f i - g i) : ∀ x, (p : Int) ∣ f x - g x := by
  obtain ⟨l, h1, h2⟩ := dP_add hf (dP_sm (-1) hg)
  have hz : ∀ i : Nat, i < d → (p : Int) ∣ pev l i := fun i hi => by
    have a := h2 i
    have b := h i hi
    rw [show pev l (i : Int) = (f i - g i) - (f i + -1 * g i - pev l i) by omega]
    exact Int.dvd_sub b a
  intro x
  have a := h2 x
  have b := pev_zero hp d l h1 hd hz x
  rw [show f x - g x = (f x + -1 * g x - pev l x) + pev l x by omega]
  exact Int.dvd_add a b
/-- falling products, and Newton's curve -/
def fal (x : Int) : Nat → Int
  | 0 => 1
  | o + 1 => fal x o * (x - o)
theorem fal_up (x : Int) : ∀ o : Nat, fal (x + 1) (o + 1) = (x + 1) * fal x o
  | 0 => by simp [fal]
  | o + 1 => by
    have := fal_up x o
    rw [fal, this, fal]
    simp only [Int.natCast_add, Int.natCast_one]
    grind
/-- the products of the inverses -/
def jv (iv : Nat → Int) : Nat → Int
  | 0 => 1
  | o + 1 => jv iv o * iv (o + 1)
/-- differences -/
def dl (f : Nat → Int) : Nat → Nat → Int
  | 0, i => f i
  | o + 1, i => dl f o (i + 1) - dl f o i
theorem dl_D (f : Nat → Int) : ∀ o i, dl (fun i => f (i + 1) - f i) o i = dl f (o + 1) i
  | 0, i => rfl
  | o + 1, i => by rw [dl, dl_D f o, dl_D f o]; rfl
def nw (iv : Nat → Int) (f : Nat → Int) (x : Int) : Nat → Int
  | 0 => 0
  | o + 1 => nw iv f x o + fal x o * jv iv o * dl f o 0
theorem fal_P (p : Int) : ∀ o, dP p (o + 1) (fun x => fal x o)
  | 0 => dP_const p 1
  | o + 1 => dP_lin _ (fal_P p o)
theorem nw_P (p : Int) (iv f : Nat → Int) : ∀ o, dP p o (fun x => nw iv f x o)
  | 0 => ⟨[], by simp, fun x => by simp [nw, pev]⟩
  | o + 1 => by
    refine dP_add (dP_mono (nw_P p iv f o) (by omega)) ?_
    refine dP_cong (dP_sm (jv iv o * dl f o 0) (fal_P p o)) (fun x => ?_)
    rw [show fal x o * jv iv o * dl f o 0 - jv iv o * dl f o 0 * fal x o = 0 by grind]
    exact Int.dvd_zero _
/-- one step on: the differences' own curve -/
theorem nw_step {p : Int} {iv : Nat → Int} {m : Nat} (hi : ∀ o, 1 ≤ o → o < m → p ∣ o * iv o - 1) (f : Nat → Int) (x : Int) : ∀ o, o + 1 ≤ m → p ∣ nw iv f (x + 1) (o + 1) - nw iv f x (o + 1) - nw iv (fun i => f (i + 1) - f i) x o
  | 0, _ => by simp [nw, fal]
  | o + 1, ho => by
    have h1 := nw_step hi f x o (by omega)
    have h2 := hi (o + 1) (by omega) (by omega)
    rw [nw, nw.eq_def iv f x (o + 1 + 1), nw.eq_def iv (fun i => f (i + 1) - f i) x (o + 1)]
    simp only
    rw [dl_D, fal_up, fal.eq_def x (o + 1), jv]
    simp only
    rw [show nw iv f (x + 1) (o + 1) + (x + 1) * fal x o * (jv iv o * iv (o + 1)) * dl f (o + 1) 0 - (nw iv f x (o + 1) + fal x o * (x - o) * (jv iv o * iv (o + 1)) * dl f (o + 1) 0) - (nw iv (fun i => f (i + 1) - f i) x o + fal x o * jv iv o * dl f (o + 1) 0) = (nw iv f (x + 1) (o + 1) - nw iv f x (o + 1) - nw iv (fun i => f (i + 1) - f i) x o) + (((o + 1 : Nat) : Int) * iv (o + 1) - 1) * (fal x o * jv iv o * dl f (o + 1) 0) by simp only [Int.natCast_add, Int.natCast_one]; grind]
    exact Int.dvd_add h1 (Int.dvd_mul_of_dvd_left h2)
theorem fal_0 : ∀ o, fal 0 (o + 1) = 0
  | 0 => by simp [fal]
  | o + 1 => by rw [fal, fal_0 o, Int.zero_mul]
theorem nw_0 (iv f : Nat → Int) : ∀ o, nw iv f 0 (o + 1) = f 0
  | 0 => by simp [nw, fal, jv, dl]
  | o + 1 => by rw [nw, nw_0 iv f o, fal_0]; simp
theorem nw_at {p : Int} {iv : Nat → Int} : ∀ (i : Nat) (m : Nat) (f : Nat → Int), (∀ o, 1 ≤ o → o < m → p ∣ o * iv o - 1) → i < m → p ∣ nw iv f i m - f i
  | 0, m, f, _, h => by
    obtain ⟨m, rfl⟩ : ∃ q, m = q + 1 := ⟨m - 1, by omega⟩
    show p ∣ nw iv f 0 (m + 1) - f 0
    rw [nw_0]; simp
  | i + 1, m, f, hi, h => by
    obtain ⟨m, rfl⟩ : ∃ q, m = q + 1 := ⟨m - 1, by omega⟩
    have h1 := nw_step hi f i m (by omega)
    have h2 := nw_at i (m + 1) f hi (by omega)
    have h3 := nw_at i m (fun i => f (i + 1) - f i) (fun o a b => hi o a (by omega)) (by omega)
    rw [show nw iv f ((i + 1 : Nat) : Int) (m + 1) - f (i + 1) = (nw iv f ((i : Int) + 1) (m + 1) - nw iv f i (m + 1) - nw iv (fun i => f (i + 1) - f i) i m) + (nw iv f i (m + 1) - f i) + (nw iv (fun i => f (i + 1) - f i) i m - (f (i + 1) - f i)) by simp only [Int.natCast_add, Int.natCast_one]; omega]
    exact Int.dvd_add (Int.dvd_add h1 h2) h3
