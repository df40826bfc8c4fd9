/-! one call of the script: what is carried, the loop's invariant, the rows that load an argument -/
theorem li_n {Z : hZ} {lr x y a b : Nat} (h : liZ Z lr a x) (k : liZ Z lr b y) (ha : a ≤ 100) (hb : b ≤ 100) : a = b := by
  have e := h.1.symm.trans k.1
  rw [i32_eq (by omega)] at e
  omega
/-- what stands is spoken of by the numbers alone -/
theorem JX_c {A A' : HA} {G : hG} {Z : hZ} (hA : okA A) (hA' : okA A') (h : JZ A Z) (h' : JZ A' Z) (hX : JX A G Z) : JX A' G Z := by
  have a1 := hA.1
  have a2 := hA.2.2.1
  have a3 := hA.2.2.2.2.1
  have a4 := hA.2.2.2.2.2.2.1
  have a5 := hA.2.2.2.2.2.2.2.2.1
  have b1 := hA'.1
  have b2 := hA'.2.2.1
  have b3 := hA'.2.2.2.2.1
  have b4 := hA'.2.2.2.2.2.2.1
  have b5 := hA'.2.2.2.2.2.2.2.2.1
  have e1 : nS_ A = nS_ A' := li_n h.1.1 h'.1.1 (by omega) (by omega)
  have e2 : nL_ A = nL_ A' := li_n h.2.1.1 h'.2.1.1 (by omega) (by omega)
  have e3 : nG_ A = nG_ A' := li_n h.2.2.1.1 h'.2.2.1.1 (by omega) (by omega)
  have e4 : nK_ A = nK_ A' := li_n h.2.2.2.1.1 h'.2.2.2.1.1 (by omega) (by omega)
  have e5 : nN_ A = nN_ A' := li_n h.2.2.2.2.1 h'.2.2.2.2.1 (by omega) (by omega)
  unfold JX told at hX ⊢
  rw [← e1, ← e2, ← e3, ← e4, ← e5]
  exact hX
theorem JX_j {A A' : HA} {G : hG} {Z : hZ} {σ τ υ φ : hSt} (h : J A Z σ τ) (h' : J A' Z υ φ) (hX : JX A G Z) : JX A' G Z := JX_c h.1 h'.1 h.2.1 h'.2.1 hX
/-- the law's own cells -/
abbrev AA (s : State) : Nat → Prop := fun q : Nat => s.heap.size ≤ q
abbrev oL (cG : Nat → ClassId) (o : Nat) (f : Nat → Int64) : va_W := [(o, .inl (cG 1, 1, .inr (.inl f)))]
/-- what holds all along the law -/
def LCx (p : Program) (l : Launch) (s : State) (m : MethodId) (meth : Method) (c : Code) (b L : Nat) (xs : Nat → Int32) (D : va_G) (cG : Nat → ClassId) (tG : Nat → Nat) : Prop :=
  lw_At p s m meth c b L xs ∧ l.stackTraces = false ∧ L ≤ 3072 ∧ (∀ g, va_K D vwCl (tysG (cG, g, tG)) s ∧ sE (cG, g, tG) (AA s) s s.heap) ∧ xE (AA s) s s.heap
/-- the law comes to its end from pc, in the turn at i -/
def NX (p : Program) (l : Launch) (e : Env) (s : State) (m : MethodId) (below : List Frame) (meth : Method) (c : Code) (b : Nat) (D : va_G) (cG : Nat → ClassId) (tG : Nat → Nat) (h mm o i pc cells slots : Nat) : Prop :=
  ∀ (g : Nat → Nat) (Z : hZ) (σ τ : hSt) (A : HA) (f : Nat → Int64) (H : Heap) (locs : List Loc) (ls : Array Slot), g 0 = h → g 200 = mm → J A Z σ τ → JX A (cG, g, tG) Z → va_P D vwCl (LW (cG, g, tG) Z (oL cG o f) σ τ) H → va_D (AA s) (LW (cG, g, tG) Z (oL cG o f) σ τ) → va_S (AA s) s.heap H locs → lv_has ls 7 [(4, .int (nI i)), (0, .ref b), (1, .ref h), (2, .ref mm), (3, .ref o)] →
    W p l e room_1 s m #[Value.ref b] below meth c H locs cells slots (lw_Z below #[Value.ref b] s) (F0 m pc ls [])
/-- a small step of an index -/
theorem nI_k {i k : Nat} {v : Int32} (hv : v = nI k) : nI i + v = nI (i + k) := by rw [hv, nI_add]
section LWL
variable {p : Program} {l : Launch} {e : Env} {R : Room} {s : State} {m : MethodId} {args : Array Value} {below : List Frame} {meth : Method} {c : Code} {H : Heap} {locs : List Loc} {cells slots : Nat} {Q : State → Prop}
variable {cc : ByteArray} {pc : Nat} {ls : Array Slot} {rest : List Value} {A : Nat → Prop} {H0 : Heap}
/-- script[i + k] -/
theorem lw_ld (hx : p.tables.exec = Jvm.exec) (hb : c.code = cc) {b L : Nat} {xs : Nat → Int32} (hX : va_X b L xs s H0) (hbl : b < H0.size) (hbA : ¬ A b) (hS : va_S A H0 H locs) {i k n0 n4 nL : Nat} {z : Int} {v : Int32} {lv : List (Nat × Value)} (hl : lv_has ls nL lv) (h0 : lv[n0]? = some (0, .ref b)) (h4 : lv[n4]? = some (4, .int (nI i))) (hv : v = nI k) (hz : Int32.ofInt z = v) (hi : i + k < L) (hL : L ≤ 3072)
    (d0 : decode cc pc = .ok (.aload_n 0, 1)) (d1 : decode cc (pc + 1) = .ok (.iload 4, 2)) (d3 : decode cc (pc + 1 + 2) = .ok (.iconst z, 1)) (d4 : decode cc (pc + 1 + 2 + 1) = .ok (.iadd, 1)) (d5 : decode cc (pc + 1 + 2 + 1 + 1) = .ok (.iaload, 1))
    (kk : W p l e R s m args below meth c H locs cells slots Q (F0 m (pc + 6) ls (.int (xs (i + k)) :: rest))) : W p l e R s m args below meth c H locs cells slots Q (F0 m pc ls rest) := by
  refine lv_aload_n hx hb d0 rfl (lv_at hl n0 h0) ?_
  refine lv_iload hx hb d1 (lv_at hl n4 h4) ?_
  refine lv_iconst (v := v) hx hb d3 hz ?_
  refine lv_iadd hx hb d4 ?_
  rw [nI_k hv]
  refine va_sld hx hb hX hbl hbA hS (vp_in_nI hi (by omega)) d5 ?_
  rw [nI_clamp (by omega)]
  exact kk
end LWL
/-- where a model's row stands -/
theorem mfix_g {cG : Nat → ClassId} {tG g k : Nat → Nat} {τ : hSt} (hg : ∀ r, r < 1000 → k r = g r) (hM : RM τ) : mfix (cG, k, tG) τ = mfix (cG, g, tG) τ := by
  refine mfix_n (G := (cG, g, tG)) (g := k) (τ := τ) (rr := τ.2.2) (fun r hr => hg r (by omega)) ?_ rfl rfl
  cases e : τ.2.2 200 2 with
  | none => rfl
  | some r => exact congrArg some (hg r (hM r e))
/-- ((long) a << 32) | (b & 0xFFFFFFFFL) -/
def lng (a b : Int32) : Int64 := (a.toInt64 <<< ((32 : Int32).toInt64 &&& 63)) ||| (b.toInt64 &&& 4294967295)
def nz (a : Int32) : Int32 := if a = 0 then 0 else 1
section LWG
variable {p : Program} {l : Launch} {e : Env} {R : Room} {s : State} {m : MethodId} {args : Array Value} {below : List Frame} {meth : Method} {c : Code} {H : Heap} {locs : List Loc} {cells slots : Nat} {Q : State → Prop}
variable {cc : ByteArray} {pc : Nat} {ls : Array Slot} {rest : List Value}
theorem lw_lg1 (hx : p.tables.exec = Jvm.exec) (hb : c.code = cc) {x : Int32} (d0 : decode cc pc = .ok (.i2l, 1)) (d1 : decode cc (pc + 1) = .ok (.bipush 32, 2)) (d3 : decode cc (pc + 1 + 2) = .ok (.lshl, 1))
    (kk : W p l e R s m args below meth c H locs cells slots Q (F0 m (pc + 4) ls (.long (x.toInt64 <<< ((32 : Int32).toInt64 &&& 63)) :: rest))) : W p l e R s m args below meth c H locs cells slots Q (F0 m pc ls (.int x :: rest)) := by
  refine lv_i2l (v := x.toInt64) hx hb d0 rfl ?_
  refine lv_bipush (v := (32 : Int32)) hx hb d1 (by decide) ?_
  exact lv_lshl (v := x.toInt64 <<< ((32 : Int32).toInt64 &&& 63)) hx hb d3 rfl kk
theorem lw_lg2 (hx : p.tables.exec = Jvm.exec) (hb : c.code = cc) {own : String} {x y : Int32} (hown : s.vm.findClass own = some m.cls) (hk : (Jvm.Cond.constantLong own 84 4294967295).before args s = true) (d0 : decode cc pc = .ok (.i2l, 1)) (d1 : decode cc (pc + 1) = .ok (.ldc2_w 84, 3)) (d3 : decode cc (pc + 1 + 3) = .ok (.land, 1)) (d4 : decode cc (pc + 1 + 3 + 1) = .ok (.lor, 1))
    (kk : W p l e R s m args below meth c H locs cells slots Q (F0 m (pc + 6) ls (.long (lng x y) :: rest))) : W p l e R s m args below meth c H locs cells slots Q (F0 m pc ls (.int y :: .long (x.toInt64 <<< ((32 : Int32).toInt64 &&& 63)) :: rest)) := by
  refine lv_i2l (v := y.toInt64) hx hb d0 rfl ?_
  refine lv_ldc2 hx hb hown hk d1 ?_
  refine lv_land hx hb d3 ?_
  exact lv_lor hx hb d4 kk
theorem lw_nz (hx : p.tables.exec = Jvm.exec) (hb : c.code = cc) {x : Int32} (d0 : decode cc pc = .ok (.ifCond .eq 7, 3)) (d3 : decode cc (pc + 3) = .ok (.iconst 1, 1)) (d4 : decode cc (pc + 3 + 1) = .ok (.goto 4, 3)) (d7 : decode cc (pc + 7) = .ok (.iconst 0, 1))
    (kk : W p l e R s m args below meth c H locs cells slots Q (F0 m (pc + 8) ls (.int (nz x) :: rest))) : W p l e R s m args below meth c H locs cells slots Q (F0 m pc ls (.int x :: rest)) := by
  refine lv_if_eq (tgt := pc + 7) hx hb d0 (by omega) (fun c1 => ?_) (fun c1 => ?_)
  · refine lv_iconst (v := (0 : Int32)) hx hb d7 (by decide) ?_
    have e : nz x = 0 := if_pos c1
    rw [e] at kk
    exact kk
  · refine lv_iconst (v := (1 : Int32)) hx hb d3 (by decide) ?_
    refine lv_goto (tgt := pc + 8) hx hb d4 (by omega) ?_
    have e : nz x = 1 := if_neg c1
    rw [e] at kk
    exact kk
end LWG
