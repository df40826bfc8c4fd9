/-- the hall: its things by their places -/
def hfix (G : hG) (Z : hZ) (σ : hSt) : va_W := [(G.2.1 0, .inr (11, [.ref (G.2.1 1), .ref (G.2.1 4), .ref (G.2.1 5), .ref (G.2.1 6), .ref (G.2.1 7), .ref (G.2.1 12), .ref (G.2.1 14), .ref (G.2.1 15), .ref (G.2.1 38), .ref (G.2.1 39), .ref (G.2.1 40), .ref (G.2.1 41), .ref (G.2.1 42), .ref (G.2.1 43), .ref (G.2.1 44), .int (σ.1 0 15)])), (G.2.1 1, .inr (8, [.ref (G.2.1 2), .ref (G.2.1 3), .int (σ.1 1 2), .int (σ.1 1 3), .int (σ.1 1 4), .int (σ.1 1 5)])), (G.2.1 2, .inl (G.1 0, 200, .inl (σ.1 2))), (G.2.1 3, .inl (G.1 0, 400, .inl (σ.1 3))), (G.2.1 4, .inr (6, [.ref (G.2.1 1)])), (G.2.1 5, .inr (10, [.ref (G.2.1 1), .ref (G.2.2 0), .ref (G.2.2 1)])), (G.2.1 6, .inr (10, [.ref (G.2.1 1), .ref (G.2.2 2), .ref (G.2.2 3)])), (G.2.1 7, .inr (4, [.ref (G.2.1 8), .ref (G.2.1 9), .ref (G.2.1 10), .ref (G.2.1 11)])), (G.2.1 8, .inl (G.1 1, 64, .inr (.inl (σ.2.1 8)))), (G.2.1 9, .inl (G.1 1, 6, .inr (.inl (σ.2.1 9)))), (G.2.1 10, .inl (G.1 1, 101, .inr (.inl (σ.2.1 10)))), (G.2.1 11, .inl (G.1 1, 101, .inr (.inl (σ.2.1 11)))), (G.2.1 12, .inr (1, [.ref (G.2.1 7), .ref (G.2.1 13), va_rf ((σ.2.2 12 2).map G.2.1), va_rf ((σ.2.2 12 3).map G.2.1), .int (σ.1 12 4), .long (σ.2.1 12 5), .long (σ.2.1 12 6)])), (G.2.1 13, .inl (G.1 1, 10, .inr (.inl (σ.2.1 13)))), (G.2.1 14, .inr (2, [.ref (G.2.1 7), .ref (G.2.1 12), .ref (G.2.1 16), .ref (G.2.1 36), .ref (G.2.1 18), .ref (G.2.1 20), .ref (G.2.1 22), va_rf ((σ.2.2 14 7).map G.2.1), va_rf ((σ.2.2 14 8).map G.2.1), .long (σ.2.1 14 9), .long (σ.2.1 14 10), .int (σ.1 14 11), .int (σ.1 14 12), .int (σ.1 14 13), .long (σ.2.1 14 14)])), (G.2.1 15, .inr (2, [.ref (G.2.1 7), .ref (G.2.1 12), .ref (G.2.1 17), .ref (G.2.1 37), .ref (G.2.1 19), .ref (G.2.1 21), .ref (G.2.1 23), va_rf ((σ.2.2 15 7).map G.2.1), va_rf ((σ.2.2 15 8).map G.2.1), .long (σ.2.1 15 9), .long (σ.2.1 15 10), .int (σ.1 15 11), .int (σ.1 15 12), .int (σ.1 15 13), .long (σ.2.1 15 14)])), (G.2.1 16, .inl (G.1 1, 10, .inr (.inl (σ.2.1 16)))), (G.2.1 17, .inl (G.1 1, 10, .inr (.inl (σ.2.1 17)))), (G.2.1 18, .inl (G.1 1, 6, .inr (.inl (σ.2.1 18)))), (G.2.1 19, .inl (G.1 1, 6, .inr (.inl (σ.2.1 19)))), (G.2.1 20, .inl (G.1 1, 101, .inr (.inl (σ.2.1 20)))), (G.2.1 21, .inl (G.1 1, 101, .inr (.inl (σ.2.1 21)))), (G.2.1 22, .inl (G.1 1, 101, .inr (.inl (σ.2.1 22)))), (G.2.1 23, .inl (G.1 1, 101, .inr (.inl (σ.2.1 23)))), (G.2.1 24, .inl (G.1 1, 101, .inr (.inl (σ.2.1 24)))), (G.2.1 25, .inl (G.1 1, 101, .inr (.inl (σ.2.1 25)))), (G.2.1 26, .inl (G.1 1, 101, .inr (.inl (σ.2.1 26)))), (G.2.1 27, .inl (G.1 1, 101, .inr (.inl (σ.2.1 27)))), (G.2.1 28, .inl (G.1 1, 101, .inr (.inl (σ.2.1 28)))), (G.2.1 29, .inl (G.1 1, 101, .inr (.inl (σ.2.1 29)))), (G.2.1 30, .inl (G.1 1, 101, .inr (.inl (σ.2.1 30)))), (G.2.1 31, .inl (G.1 1, 101, .inr (.inl (σ.2.1 31)))), (G.2.1 32, .inl (G.1 1, 101, .inr (.inl (σ.2.1 32)))), (G.2.1 33, .inl (G.1 1, 101, .inr (.inl (σ.2.1 33)))), (G.2.1 34, .inl (G.1 1, 101, .inr (.inl (σ.2.1 34)))), (G.2.1 35, .inl (G.1 1, 101, .inr (.inl (σ.2.1 35)))), (G.2.1 36, .inl (G.1 4, 6, .inr (.inr (.inr (.inr (fun i => if i < 6 then some (G.2.1 (24 + i)) else none)))))), (G.2.1 37, .inl (G.1 4, 6, .inr (.inr (.inr (.inr (fun i => if i < 6 then some (G.2.1 (30 + i)) else none)))))), (G.2.1 38, .inr (0, [.int (Z.2.2.1 38 0), va_rf ((Z.2.2.2 38 1).map G.2.1), .int (Z.2.2.1 38 2)])), (G.2.1 39, .inr (0, [.int (Z.2.2.1 39 0), va_rf ((Z.2.2.2 39 1).map G.2.1), .int (Z.2.2.1 39 2)])), (G.2.1 40, .inr (0, [.int (Z.2.2.1 40 0), va_rf ((Z.2.2.2 40 1).map G.2.1), .int (Z.2.2.1 40 2)])), (G.2.1 41, .inr (0, [.int (Z.2.2.1 41 0), va_rf ((Z.2.2.2 41 1).map G.2.1), .int (Z.2.2.1 41 2)])), (G.2.1 42, .inr (0, [.int (Z.2.2.1 42 0), va_rf ((Z.2.2.2 42 1).map G.2.1), .int (Z.2.2.1 42 2)])), (G.2.1 43, .inl (G.1 0, 6, .inl (σ.1 43))), (G.2.1 44, .inl (G.1 0, 6, .inl (σ.1 44)))]
def hd (G : hG) (Z : hZ) (r : Nat) : va_E := if r / 1000 = 1 then .inr (5, [.ref (G.2.1 (r + 1000)), .ref (G.2.1 (r + 2000)), .int (Z.2.2.1 r 2), .int (Z.2.2.1 r 3), .int (Z.2.2.1 r 4)]) else if r / 1000 = 2 ∨ r / 1000 = 3 ∨ r / 1000 = 6 ∨ r / 1000 = 7 then .inl (G.1 0, Z.2.1 r, .inl (Z.2.2.1 r)) else if r / 1000 = 4 ∨ r / 1000 = 5 then .inr (9, [.ref (G.2.1 (r + 2000))]) else if r / 1000 = 8 then .inr (7, [va_rf ((Z.2.2.2 r 0).map G.2.1), .int (Z.2.2.1 r 1), va_rf ((Z.2.2.2 r 2).map G.2.1), va_rf ((Z.2.2.2 r 3).map G.2.1)]) else if r / 1000 = 9 then .inr (3, [.int (Z.2.2.1 r 0), .int (Z.2.2.1 r 1)]) else .inl (G.1 3, Z.2.1 r, .inr (.inr (.inr (.inr (fun i => (Z.2.2.2 r i).map G.2.1)))))
def hdyn (G : hG) (Z : hZ) : va_W := Z.1.map (fun r => (G.2.1 r, hd G Z r))
def hW (G : hG) (Z : hZ) (Y : va_W) (σ : hSt) : va_W := hfix G Z σ ++ (hdyn G Z ++ Y)
theorem hg_0 (G : hG) (Z : hZ) (Y : va_W) (σ : hSt) : (hW G Z Y σ)[0]? = some (G.2.1 0, .inr (11, [.ref (G.2.1 1), .ref (G.2.1 4), .ref (G.2.1 5), .ref (G.2.1 6), .ref (G.2.1 7), .ref (G.2.1 12), .ref (G.2.1 14), .ref (G.2.1 15), .ref (G.2.1 38), .ref (G.2.1 39), .ref (G.2.1 40), .ref (G.2.1 41), .ref (G.2.1 42), .ref (G.2.1 43), .ref (G.2.1 44), .int (σ.1 0 15)])) := rfl
theorem hp_0_15 (G : hG) (Z : hZ) (Y : va_W) (σ : hSt) (v : Int32) : (hW G Z Y σ).set 0 (G.2.1 0, .inr (11, ([.ref (G.2.1 1), .ref (G.2.1 4), .ref (G.2.1 5), .ref (G.2.1 6), .ref (G.2.1 7), .ref (G.2.1 12), .ref (G.2.1 14), .ref (G.2.1 15), .ref (G.2.1 38), .ref (G.2.1 39), .ref (G.2.1 40), .ref (G.2.1 41), .ref (G.2.1 42), .ref (G.2.1 43), .ref (G.2.1 44), .int (σ.1 0 15)] : List Value).set 15 (.int v))) = hW G Z Y (sI σ 0 15 v) := rfl
theorem hg_1 (G : hG) (Z : hZ) (Y : va_W) (σ : hSt) : (hW G Z Y σ)[1]? = some (G.2.1 1, .inr (8, [.ref (G.2.1 2), .ref (G.2.1 3), .int (σ.1 1 2), .int (σ.1 1 3), .int (σ.1 1 4), .int (σ.1 1 5)])) := rfl
theorem hp_1_2 (G : hG) (Z : hZ) (Y : va_W) (σ : hSt) (v : Int32) : (hW G Z Y σ).set 1 (G.2.1 1, .inr (8, ([.ref (G.2.1 2), .ref (G.2.1 3), .int (σ.1 1 2), .int (σ.1 1 3), .int (σ.1 1 4), .int (σ.1 1 5)] : List Value).set 2 (.int v))) = hW G Z Y (sI σ 1 2 v) := rfl
theorem hp_1_3 (G : hG) (Z : hZ) (Y : va_W) (σ : hSt) (v : Int32) : (hW G Z Y σ).set 1 (G.2.1 1, .inr (8, ([.ref (G.2.1 2), .ref (G.2.1 3), .int (σ.1 1 2), .int (σ.1 1 3), .int (σ.1 1 4), .int (σ.1 1 5)] : List Value).set 3 (.int v))) = hW G Z Y (sI σ 1 3 v) := rfl
theorem hp_1_4 (G : hG) (Z : hZ) (Y : va_W) (σ : hSt) (v : Int32) : (hW G Z Y σ).set 1 (G.2.1 1, .inr (8, ([.ref (G.2.1 2), .ref (G.2.1 3), .int (σ.1 1 2), .int (σ.1 1 3), .int (σ.1 1 4), .int (σ.1 1 5)] : List Value).set 4 (.int v))) = hW G Z Y (sI σ 1 4 v) := rfl
theorem hp_1_5 (G : hG) (Z : hZ) (Y : va_W) (σ : hSt) (v : Int32) : (hW G Z Y σ).set 1 (G.2.1 1, .inr (8, ([.ref (G.2.1 2), .ref (G.2.1 3), .int (σ.1 1 2), .int (σ.1 1 3), .int (σ.1 1 4), .int (σ.1 1 5)] : List Value).set 5 (.int v))) = hW G Z Y (sI σ 1 5 v) := rfl
theorem hg_2 (G : hG) (Z : hZ) (Y : va_W) (σ : hSt) : (hW G Z Y σ)[2]? = some (G.2.1 2, .inl (G.1 0, 200, .inl (σ.1 2))) := rfl
theorem hp_2 (G : hG) (Z : hZ) (Y : va_W) (σ : hSt) (j : Nat) (v : Int32) : (hW G Z Y σ).set 2 (G.2.1 2, .inl (G.1 0, 200, .inl (upd (σ.1 2) j v))) = hW G Z Y (sI σ 2 j v) := rfl
theorem hg_3 (G : hG) (Z : hZ) (Y : va_W) (σ : hSt) : (hW G Z Y σ)[3]? = some (G.2.1 3, .inl (G.1 0, 400, .inl (σ.1 3))) := rfl
theorem hp_3 (G : hG) (Z : hZ) (Y : va_W) (σ : hSt) (j : Nat) (v : Int32) : (hW G Z Y σ).set 3 (G.2.1 3, .inl (G.1 0, 400, .inl (upd (σ.1 3) j v))) = hW G Z Y (sI σ 3 j v) := rfl
theorem hg_4 (G : hG) (Z : hZ) (Y : va_W) (σ : hSt) : (hW G Z Y σ)[4]? = some (G.2.1 4, .inr (6, [.ref (G.2.1 1)])) := rfl
theorem hg_5 (G : hG) (Z : hZ) (Y : va_W) (σ : hSt) : (hW G Z Y σ)[5]? = some (G.2.1 5, .inr (10, [.ref (G.2.1 1), .ref (G.2.2 0), .ref (G.2.2 1)])) := rfl
theorem hg_6 (G : hG) (Z : hZ) (Y : va_W) (σ : hSt) : (hW G Z Y σ)[6]? = some (G.2.1 6, .inr (10, [.ref (G.2.1 1), .ref (G.2.2 2), .ref (G.2.2 3)])) := rfl
theorem hg_7 (G : hG) (Z : hZ) (Y : va_W) (σ : hSt) : (hW G Z Y σ)[7]? = some (G.2.1 7, .inr (4, [.ref (G.2.1 8), .ref (G.2.1 9), .ref (G.2.1 10), .ref (G.2.1 11)])) := rfl
theorem hg_8 (G : hG) (Z : hZ) (Y : va_W) (σ : hSt) : (hW G Z Y σ)[8]? = some (G.2.1 8, .inl (G.1 1, 64, .inr (.inl (σ.2.1 8)))) := rfl
theorem hp_8 (G : hG) (Z : hZ) (Y : va_W) (σ : hSt) (j : Nat) (v : Int64) : (hW G Z Y σ).set 8 (G.2.1 8, .inl (G.1 1, 64, .inr (.inl (vp_updL (σ.2.1 8) j v)))) = hW G Z Y (sJ σ 8 j v) := rfl
theorem hg_9 (G : hG) (Z : hZ) (Y : va_W) (σ : hSt) : (hW G Z Y σ)[9]? = some (G.2.1 9, .inl (G.1 1, 6, .inr (.inl (σ.2.1 9)))) := rfl
theorem hp_9 (G : hG) (Z : hZ) (Y : va_W) (σ : hSt) (j : Nat) (v : Int64) : (hW G Z Y σ).set 9 (G.2.1 9, .inl (G.1 1, 6, .inr (.inl (vp_updL (σ.2.1 9) j v)))) = hW G Z Y (sJ σ 9 j v) := rfl
theorem hg_10 (G : hG) (Z : hZ) (Y : va_W) (σ : hSt) : (hW G Z Y σ)[10]? = some (G.2.1 10, .inl (G.1 1, 101, .inr (.inl (σ.2.1 10)))) := rfl
theorem hp_10 (G : hG) (Z : hZ) (Y : va_W) (σ : hSt) (j : Nat) (v : Int64) : (hW G Z Y σ).set 10 (G.2.1 10, .inl (G.1 1, 101, .inr (.inl (vp_updL (σ.2.1 10) j v)))) = hW G Z Y (sJ σ 10 j v) := rfl
theorem hg_11 (G : hG) (Z : hZ) (Y : va_W) (σ : hSt) : (hW G Z Y σ)[11]? = some (G.2.1 11, .inl (G.1 1, 101, .inr (.inl (σ.2.1 11)))) := rfl
theorem hp_11 (G : hG) (Z : hZ) (Y : va_W) (σ : hSt) (j : Nat) (v : Int64) : (hW G Z Y σ).set 11 (G.2.1 11, .inl (G.1 1, 101, .inr (.inl (vp_updL (σ.2.1 11) j v)))) = hW G Z Y (sJ σ 11 j v) := rfl
theorem hg_12 (G : hG) (Z : hZ) (Y : va_W) (σ : hSt) : (hW G Z Y σ)[12]? = some (G.2.1 12, .inr (1, [.ref (G.2.1 7), .ref (G.2.1 13), va_rf ((σ.2.2 12 2).map G.2.1), va_rf ((σ.2.2 12 3).map G.2.1), .int (σ.1 12 4), .long (σ.2.1 12 5), .long (σ.2.1 12 6)])) := rfl
theorem hp_12_2 (G : hG) (Z : hZ) (Y : va_W) (σ : hSt) (v : Option Nat) : (hW G Z Y σ).set 12 (G.2.1 12, .inr (1, ([.ref (G.2.1 7), .ref (G.2.1 13), va_rf ((σ.2.2 12 2).map G.2.1), va_rf ((σ.2.2 12 3).map G.2.1), .int (σ.1 12 4), .long (σ.2.1 12 5), .long (σ.2.1 12 6)] : List Value).set 2 (va_rf (v.map G.2.1)))) = hW G Z Y (sR σ 12 2 v) := rfl
theorem hp_12_3 (G : hG) (Z : hZ) (Y : va_W) (σ : hSt) (v : Option Nat) : (hW G Z Y σ).set 12 (G.2.1 12, .inr (1, ([.ref (G.2.1 7), .ref (G.2.1 13), va_rf ((σ.2.2 12 2).map G.2.1), va_rf ((σ.2.2 12 3).map G.2.1), .int (σ.1 12 4), .long (σ.2.1 12 5), .long (σ.2.1 12 6)] : List Value).set 3 (va_rf (v.map G.2.1)))) = hW G Z Y (sR σ 12 3 v) := rfl
theorem hp_12_4 (G : hG) (Z : hZ) (Y : va_W) (σ : hSt) (v : Int32) : (hW G Z Y σ).set 12 (G.2.1 12, .inr (1, ([.ref (G.2.1 7), .ref (G.2.1 13), va_rf ((σ.2.2 12 2).map G.2.1), va_rf ((σ.2.2 12 3).map G.2.1), .int (σ.1 12 4), .long (σ.2.1 12 5), .long (σ.2.1 12 6)] : List Value).set 4 (.int v))) = hW G Z Y (sI σ 12 4 v) := rfl
theorem hp_12_5 (G : hG) (Z : hZ) (Y : va_W) (σ : hSt) (v : Int64) : (hW G Z Y σ).set 12 (G.2.1 12, .inr (1, ([.ref (G.2.1 7), .ref (G.2.1 13), va_rf ((σ.2.2 12 2).map G.2.1), va_rf ((σ.2.2 12 3).map G.2.1), .int (σ.1 12 4), .long (σ.2.1 12 5), .long (σ.2.1 12 6)] : List Value).set 5 (.long v))) = hW G Z Y (sJ σ 12 5 v) := rfl
theorem hp_12_6 (G : hG) (Z : hZ) (Y : va_W) (σ : hSt) (v : Int64) : (hW G Z Y σ).set 12 (G.2.1 12, .inr (1, ([.ref (G.2.1 7), .ref (G.2.1 13), va_rf ((σ.2.2 12 2).map G.2.1), va_rf ((σ.2.2 12 3).map G.2.1), .int (σ.1 12 4), .long (σ.2.1 12 5), .long (σ.2.1 12 6)] : List Value).set 6 (.long v))) = hW G Z Y (sJ σ 12 6 v) := rfl
theorem hg_13 (G : hG) (Z : hZ) (Y : va_W) (σ : hSt) : (hW G Z Y σ)[13]? = some (G.2.1 13, .inl (G.1 1, 10, .inr (.inl (σ.2.1 13)))) := rfl
theorem hp_13 (G : hG) (Z : hZ) (Y : va_W) (σ : hSt) (j : Nat) (v : Int64) : (hW G Z Y σ).set 13 (G.2.1 13, .inl (G.1 1, 10, .inr (.inl (vp_updL (σ.2.1 13) j v)))) = hW G Z Y (sJ σ 13 j v) := rfl
theorem hg_14 (G : hG) (Z : hZ) (Y : va_W) (σ : hSt) : (hW G Z Y σ)[14]? = some (G.2.1 14, .inr (2, [.ref (G.2.1 7), .ref (G.2.1 12), .ref (G.2.1 16), .ref (G.2.1 36), .ref (G.2.1 18), .ref (G.2.1 20), .ref (G.2.1 22), va_rf ((σ.2.2 14 7).map G.2.1), va_rf ((σ.2.2 14 8).map G.2.1), .long (σ.2.1 14 9), .long (σ.2.1 14 10), .int (σ.1 14 11), .int (σ.1 14 12), .int (σ.1 14 13), .long (σ.2.1 14 14)])) := rfl
theorem hp_14_7 (G : hG) (Z : hZ) (Y : va_W) (σ : hSt) (v : Option Nat) : (hW G Z Y σ).set 14 (G.2.1 14, .inr (2, ([.ref (G.2.1 7), .ref (G.2.1 12), .ref (G.2.1 16), .ref (G.2.1 36), .ref (G.2.1 18), .ref (G.2.1 20), .ref (G.2.1 22), va_rf ((σ.2.2 14 7).map G.2.1), va_rf ((σ.2.2 14 8).map G.2.1), .long (σ.2.1 14 9), .long (σ.2.1 14 10), .int (σ.1 14 11), .int (σ.1 14 12), .int (σ.1 14 13), .long (σ.2.1 14 14)] : List Value).set 7 (va_rf (v.map G.2.1)))) = hW G Z Y (sR σ 14 7 v) := rfl
theorem hp_14_8 (G : hG) (Z : hZ) (Y : va_W) (σ : hSt) (v : Option Nat) : (hW G Z Y σ).set 14 (G.2.1 14, .inr (2, ([.ref (G.2.1 7), .ref (G.2.1 12), .ref (G.2.1 16), .ref (G.2.1 36), .ref (G.2.1 18), .ref (G.2.1 20), .ref (G.2.1 22), va_rf ((σ.2.2 14 7).map G.2.1), va_rf ((σ.2.2 14 8).map G.2.1), .long (σ.2.1 14 9), .long (σ.2.1 14 10), .int (σ.1 14 11), .int (σ.1 14 12), .int (σ.1 14 13), .long (σ.2.1 14 14)] : List Value).set 8 (va_rf (v.map G.2.1)))) = hW G Z Y (sR σ 14 8 v) := rfl
theorem hp_14_9 (G : hG) (Z : hZ) (Y : va_W) (σ : hSt) (v : Int64) : (hW G Z Y σ).set 14 (G.2.1 14, .inr (2, ([.ref (G.2.1 7), .ref (G.2.1 12), .ref (G.2.1 16), .ref (G.2.1 36), .ref (G.2.1 18), .ref (G.2.1 20), .ref (G.2.1 22), va_rf ((σ.2.2 14 7).map G.2.1), va_rf ((σ.2.2 14 8).map G.2.1), .long (σ.2.1 14 9), .long (σ.2.1 14 10), .int (σ.1 14 11), .int (σ.1 14 12), .int (σ.1 14 13), .long (σ.2.1 14 14)] : List Value).set 9 (.long v))) = hW G Z Y (sJ σ 14 9 v) := rfl
theorem hp_14_10 (G : hG) (Z : hZ) (Y : va_W) (σ : hSt) (v : Int64) : (hW G Z Y σ).set 14 (G.2.1 14, .inr (2, ([.ref (G.2.1 7), .ref (G.2.1 12), .ref (G.2.1 16), .ref (G.2.1 36), .ref (G.2.1 18), .ref (G.2.1 20), .ref (G.2.1 22), va_rf ((σ.2.2 14 7).map G.2.1), va_rf ((σ.2.2 14 8).map G.2.1), .long (σ.2.1 14 9), .long (σ.2.1 14 10), .int (σ.1 14 11), .int (σ.1 14 12), .int (σ.1 14 13), .long (σ.2.1 14 14)] : List Value).set 10 (.long v))) = hW G Z Y (sJ σ 14 10 v) := rfl
theorem hp_14_11 (G : hG) (Z : hZ) (Y : va_W) (σ : hSt) (v : Int32) : (hW G Z Y σ).set 14 (G.2.1 14, .inr (2, ([.ref (G.2.1 7), .ref (G.2.1 12), .ref (G.2.1 16), .ref (G.2.1 36), .ref (G.2.1 18), .ref (G.2.1 20), .ref (G.2.1 22), va_rf ((σ.2.2 14 7).map G.2.1), va_rf ((σ.2.2 14 8).map G.2.1), .long (σ.2.1 14 9), .long (σ.2.1 14 10), .int (σ.1 14 11), .int (σ.1 14 12), .int (σ.1 14 13), .long (σ.2.1 14 14)] : List Value).set 11 (.int v))) = hW G Z Y (sI σ 14 11 v) := rfl
theorem hp_14_12 (G : hG) (Z : hZ) (Y : va_W) (σ : hSt) (v : Int32) : (hW G Z Y σ).set 14 (G.2.1 14, .inr (2, ([.ref (G.2.1 7), .ref (G.2.1 12), .ref (G.2.1 16), .ref (G.2.1 36), .ref (G.2.1 18), .ref (G.2.1 20), .ref (G.2.1 22), va_rf ((σ.2.2 14 7).map G.2.1), va_rf ((σ.2.2 14 8).map G.2.1), .long (σ.2.1 14 9), .long (σ.2.1 14 10), .int (σ.1 14 11), .int (σ.1 14 12), .int (σ.1 14 13), .long (σ.2.1 14 14)] : List Value).set 12 (.int v))) = hW G Z Y (sI σ 14 12 v) := rfl
theorem hp_14_13 (G : hG) (Z : hZ) (Y : va_W) (σ : hSt) (v : Int32) : (hW G Z Y σ).set 14 (G.2.1 14, .inr (2, ([.ref (G.2.1 7), .ref (G.2.1 12), .ref (G.2.1 16), .ref (G.2.1 36), .ref (G.2.1 18), .ref (G.2.1 20), .ref (G.2.1 22), va_rf ((σ.2.2 14 7).map G.2.1), va_rf ((σ.2.2 14 8).map G.2.1), .long (σ.2.1 14 9), .long (σ.2.1 14 10), .int (σ.1 14 11), .int (σ.1 14 12), .int (σ.1 14 13), .long (σ.2.1 14 14)] : List Value).set 13 (.int v))) = hW G Z Y (sI σ 14 13 v) := rfl
theorem hp_14_14 (G : hG) (Z : hZ) (Y : va_W) (σ : hSt) (v : Int64) : (hW G Z Y σ).set 14 (G.2.1 14, .inr (2, ([.ref (G.2.1 7), .ref (G.2.1 12), .ref (G.2.1 16), .ref (G.2.1 36), .ref (G.2.1 18), .ref (G.2.1 20), .ref (G.2.1 22), va_rf ((σ.2.2 14 7).map G.2.1), va_rf ((σ.2.2 14 8).map G.2.1), .long (σ.2.1 14 9), .long (σ.2.1 14 10), .int (σ.1 14 11), .int (σ.1 14 12), .int (σ.1 14 13), .long (σ.2.1 14 14)] : List Value).set 14 (.long v))) = hW G Z Y (sJ σ 14 14 v) := rfl
theorem hg_15 (G : hG) (Z : hZ) (Y : va_W) (σ : hSt) : (hW G Z Y σ)[15]? = some (G.2.1 15, .inr (2, [.ref (G.2.1 7), .ref (G.2.1 12), .ref (G.2.1 17), .ref (G.2.1 37), .ref (G.2.1 19), .ref (G.2.1 21), .ref (G.2.1 23), va_rf ((σ.2.2 15 7).map G.2.1), va_rf ((σ.2.2 15 8).map G.2.1), .long (σ.2.1 15 9), .long (σ.2.1 15 10), .int (σ.1 15 11), .int (σ.1 15 12), .int (σ.1 15 13), .long (σ.2.1 15 14)])) := rfl
theorem hp_15_7 (G : hG) (Z : hZ) (Y : va_W) (σ : hSt) (v : Option Nat) : (hW G Z Y σ).set 15 (G.2.1 15, .inr (2, ([.ref (G.2.1 7), .ref (G.2.1 12), .ref (G.2.1 17), .ref (G.2.1 37), .ref (G.2.1 19), .ref (G.2.1 21), .ref (G.2.1 23), va_rf ((σ.2.2 15 7).map G.2.1), va_rf ((σ.2.2 15 8).map G.2.1), .long (σ.2.1 15 9), .long (σ.2.1 15 10), .int (σ.1 15 11), .int (σ.1 15 12), .int (σ.1 15 13), .long (σ.2.1 15 14)] : List Value).set 7 (va_rf (v.map G.2.1)))) = hW G Z Y (sR σ 15 7 v) := rfl
theorem hp_15_8 (G : hG) (Z : hZ) (Y : va_W) (σ : hSt) (v : Option Nat) : (hW G Z Y σ).set 15 (G.2.1 15, .inr (2, ([.ref (G.2.1 7), .ref (G.2.1 12), .ref (G.2.1 17), .ref (G.2.1 37), .ref (G.2.1 19), .ref (G.2.1 21), .ref (G.2.1 23), va_rf ((σ.2.2 15 7).map G.2.1), va_rf ((σ.2.2 15 8).map G.2.1), .long (σ.2.1 15 9), .long (σ.2.1 15 10), .int (σ.1 15 11), .int (σ.1 15 12), .int (σ.1 15 13), .long (σ.2.1 15 14)] : List Value).set 8 (va_rf (v.map G.2.1)))) = hW G Z Y (sR σ 15 8 v) := rfl
theorem hp_15_9 (G : hG) (Z : hZ) (Y : va_W) (σ : hSt) (v : Int64) : (hW G Z Y σ).set 15 (G.2.1 15, .inr (2, ([.ref (G.2.1 7), .ref (G.2.1 12), .ref (G.2.1 17), .ref (G.2.1 37), .ref (G.2.1 19), .ref (G.2.1 21), .ref (G.2.1 23), va_rf ((σ.2.2 15 7).map G.2.1), va_rf ((σ.2.2 15 8).map G.2.1), .long (σ.2.1 15 9), .long (σ.2.1 15 10), .int (σ.1 15 11), .int (σ.1 15 12), .int (σ.1 15 13), .long (σ.2.1 15 14)] : List Value).set 9 (.long v))) = hW G Z Y (sJ σ 15 9 v) := rfl
theorem hp_15_10 (G : hG) (Z : hZ) (Y : va_W) (σ : hSt) (v : Int64) : (hW G Z Y σ).set 15 (G.2.1 15, .inr (2, ([.ref (G.2.1 7), .ref (G.2.1 12), .ref (G.2.1 17), .ref (G.2.1 37), .ref (G.2.1 19), .ref (G.2.1 21), .ref (G.2.1 23), va_rf ((σ.2.2 15 7).map G.2.1), va_rf ((σ.2.2 15 8).map G.2.1), .long (σ.2.1 15 9), .long (σ.2.1 15 10), .int (σ.1 15 11), .int (σ.1 15 12), .int (σ.1 15 13), .long (σ.2.1 15 14)] : List Value).set 10 (.long v))) = hW G Z Y (sJ σ 15 10 v) := rfl
theorem hp_15_11 (G : hG) (Z : hZ) (Y : va_W) (σ : hSt) (v : Int32) : (hW G Z Y σ).set 15 (G.2.1 15, .inr (2, ([.ref (G.2.1 7), .ref (G.2.1 12), .ref (G.2.1 17), .ref (G.2.1 37), .ref (G.2.1 19), .ref (G.2.1 21), .ref (G.2.1 23), va_rf ((σ.2.2 15 7).map G.2.1), va_rf ((σ.2.2 15 8).map G.2.1), .long (σ.2.1 15 9), .long (σ.2.1 15 10), .int (σ.1 15 11), .int (σ.1 15 12), .int (σ.1 15 13), .long (σ.2.1 15 14)] : List Value).set 11 (.int v))) = hW G Z Y (sI σ 15 11 v) := rfl
theorem hp_15_12 (G : hG) (Z : hZ) (Y : va_W) (σ : hSt) (v : Int32) : (hW G Z Y σ).set 15 (G.2.1 15, .inr (2, ([.ref (G.2.1 7), .ref (G.2.1 12), .ref (G.2.1 17), .ref (G.2.1 37), .ref (G.2.1 19), .ref (G.2.1 21), .ref (G.2.1 23), va_rf ((σ.2.2 15 7).map G.2.1), va_rf ((σ.2.2 15 8).map G.2.1), .long (σ.2.1 15 9), .long (σ.2.1 15 10), .int (σ.1 15 11), .int (σ.1 15 12), .int (σ.1 15 13), .long (σ.2.1 15 14)] : List Value).set 12 (.int v))) = hW G Z Y (sI σ 15 12 v) := rfl
theorem hp_15_13 (G : hG) (Z : hZ) (Y : va_W) (σ : hSt) (v : Int32) : (hW G Z Y σ).set 15 (G.2.1 15, .inr (2, ([.ref (G.2.1 7), .ref (G.2.1 12), .ref (G.2.1 17), .ref (G.2.1 37), .ref (G.2.1 19), .ref (G.2.1 21), .ref (G.2.1 23), va_rf ((σ.2.2 15 7).map G.2.1), va_rf ((σ.2.2 15 8).map G.2.1), .long (σ.2.1 15 9), .long (σ.2.1 15 10), .int (σ.1 15 11), .int (σ.1 15 12), .int (σ.1 15 13), .long (σ.2.1 15 14)] : List Value).set 13 (.int v))) = hW G Z Y (sI σ 15 13 v) := rfl
theorem hp_15_14 (G : hG) (Z : hZ) (Y : va_W) (σ : hSt) (v : Int64) : (hW G Z Y σ).set 15 (G.2.1 15, .inr (2, ([.ref (G.2.1 7), .ref (G.2.1 12), .ref (G.2.1 17), .ref (G.2.1 37), .ref (G.2.1 19), .ref (G.2.1 21), .ref (G.2.1 23), va_rf ((σ.2.2 15 7).map G.2.1), va_rf ((σ.2.2 15 8).map G.2.1), .long (σ.2.1 15 9), .long (σ.2.1 15 10), .int (σ.1 15 11), .int (σ.1 15 12), .int (σ.1 15 13), .long (σ.2.1 15 14)] : List Value).set 14 (.long v))) = hW G Z Y (sJ σ 15 14 v) := rfl
theorem hg_16 (G : hG) (Z : hZ) (Y : va_W) (σ : hSt) : (hW G Z Y σ)[16]? = some (G.2.1 16, .inl (G.1 1, 10, .inr (.inl (σ.2.1 16)))) := rfl
theorem hp_16 (G : hG) (Z : hZ) (Y : va_W) (σ : hSt) (j : Nat) (v : Int64) : (hW G Z Y σ).set 16 (G.2.1 16, .inl (G.1 1, 10, .inr (.inl (vp_updL (σ.2.1 16) j v)))) = hW G Z Y (sJ σ 16 j v) := rfl
theorem hg_17 (G : hG) (Z : hZ) (Y : va_W) (σ : hSt) : (hW G Z Y σ)[17]? = some (G.2.1 17, .inl (G.1 1, 10, .inr (.inl (σ.2.1 17)))) := rfl
theorem hp_17 (G : hG) (Z : hZ) (Y : va_W) (σ : hSt) (j : Nat) (v : Int64) : (hW G Z Y σ).set 17 (G.2.1 17, .inl (G.1 1, 10, .inr (.inl (vp_updL (σ.2.1 17) j v)))) = hW G Z Y (sJ σ 17 j v) := rfl
theorem hg_18 (G : hG) (Z : hZ) (Y : va_W) (σ : hSt) : (hW G Z Y σ)[18]? = some (G.2.1 18, .inl (G.1 1, 6, .inr (.inl (σ.2.1 18)))) := rfl
theorem hp_18 (G : hG) (Z : hZ) (Y : va_W) (σ : hSt) (j : Nat) (v : Int64) : (hW G Z Y σ).set 18 (G.2.1 18, .inl (G.1 1, 6, .inr (.inl (vp_updL (σ.2.1 18) j v)))) = hW G Z Y (sJ σ 18 j v) := rfl
theorem hg_19 (G : hG) (Z : hZ) (Y : va_W) (σ : hSt) : (hW G Z Y σ)[19]? = some (G.2.1 19, .inl (G.1 1, 6, .inr (.inl (σ.2.1 19)))) := rfl
theorem hp_19 (G : hG) (Z : hZ) (Y : va_W) (σ : hSt) (j : Nat) (v : Int64) : (hW G Z Y σ).set 19 (G.2.1 19, .inl (G.1 1, 6, .inr (.inl (vp_updL (σ.2.1 19) j v)))) = hW G Z Y (sJ σ 19 j v) := rfl
theorem hg_20 (G : hG) (Z : hZ) (Y : va_W) (σ : hSt) : (hW G Z Y σ)[20]? = some (G.2.1 20, .inl (G.1 1, 101, .inr (.inl (σ.2.1 20)))) := rfl
theorem hp_20 (G : hG) (Z : hZ) (Y : va_W) (σ : hSt) (j : Nat) (v : Int64) : (hW G Z Y σ).set 20 (G.2.1 20, .inl (G.1 1, 101, .inr (.inl (vp_updL (σ.2.1 20) j v)))) = hW G Z Y (sJ σ 20 j v) := rfl
theorem hg_21 (G : hG) (Z : hZ) (Y : va_W) (σ : hSt) : (hW G Z Y σ)[21]? = some (G.2.1 21, .inl (G.1 1, 101, .inr (.inl (σ.2.1 21)))) := rfl
theorem hp_21 (G : hG) (Z : hZ) (Y : va_W) (σ : hSt) (j : Nat) (v : Int64) : (hW G Z Y σ).set 21 (G.2.1 21, .inl (G.1 1, 101, .inr (.inl (vp_updL (σ.2.1 21) j v)))) = hW G Z Y (sJ σ 21 j v) := rfl
theorem hg_22 (G : hG) (Z : hZ) (Y : va_W) (σ : hSt) : (hW G Z Y σ)[22]? = some (G.2.1 22, .inl (G.1 1, 101, .inr (.inl (σ.2.1 22)))) := rfl
theorem hp_22 (G : hG) (Z : hZ) (Y : va_W) (σ : hSt) (j : Nat) (v : Int64) : (hW G Z Y σ).set 22 (G.2.1 22, .inl (G.1 1, 101, .inr (.inl (vp_updL (σ.2.1 22) j v)))) = hW G Z Y (sJ σ 22 j v) := rfl
theorem hg_23 (G : hG) (Z : hZ) (Y : va_W) (σ : hSt) : (hW G Z Y σ)[23]? = some (G.2.1 23, .inl (G.1 1, 101, .inr (.inl (σ.2.1 23)))) := rfl
theorem hp_23 (G : hG) (Z : hZ) (Y : va_W) (σ : hSt) (j : Nat) (v : Int64) : (hW G Z Y σ).set 23 (G.2.1 23, .inl (G.1 1, 101, .inr (.inl (vp_updL (σ.2.1 23) j v)))) = hW G Z Y (sJ σ 23 j v) := rfl
theorem hg_24 (G : hG) (Z : hZ) (Y : va_W) (σ : hSt) : (hW G Z Y σ)[24]? = some (G.2.1 24, .inl (G.1 1, 101, .inr (.inl (σ.2.1 24)))) := rfl
theorem hp_24 (G : hG) (Z : hZ) (Y : va_W) (σ : hSt) (j : Nat) (v : Int64) : (hW G Z Y σ).set 24 (G.2.1 24, .inl (G.1 1, 101, .inr (.inl (vp_updL (σ.2.1 24) j v)))) = hW G Z Y (sJ σ 24 j v) := rfl
theorem hg_25 (G : hG) (Z : hZ) (Y : va_W) (σ : hSt) : (hW G Z Y σ)[25]? = some (G.2.1 25, .inl (G.1 1, 101, .inr (.inl (σ.2.1 25)))) := rfl
theorem hp_25 (G : hG) (Z : hZ) (Y : va_W) (σ : hSt) (j : Nat) (v : Int64) : (hW G Z Y σ).set 25 (G.2.1 25, .inl (G.1 1, 101, .inr (.inl (vp_updL (σ.2.1 25) j v)))) = hW G Z Y (sJ σ 25 j v) := rfl
theorem hg_26 (G : hG) (Z : hZ) (Y : va_W) (σ : hSt) : (hW G Z Y σ)[26]? = some (G.2.1 26, .inl (G.1 1, 101, .inr (.inl (σ.2.1 26)))) := rfl
theorem hp_26 (G : hG) (Z : hZ) (Y : va_W) (σ : hSt) (j : Nat) (v : Int64) : (hW G Z Y σ).set 26 (G.2.1 26, .inl (G.1 1, 101, .inr (.inl (vp_updL (σ.2.1 26) j v)))) = hW G Z Y (sJ σ 26 j v) := rfl
theorem hg_27 (G : hG) (Z : hZ) (Y : va_W) (σ : hSt) : (hW G Z Y σ)[27]? = some (G.2.1 27, .inl (G.1 1, 101, .inr (.inl (σ.2.1 27)))) := rfl
theorem hp_27 (G : hG) (Z : hZ) (Y : va_W) (σ : hSt) (j : Nat) (v : Int64) : (hW G Z Y σ).set 27 (G.2.1 27, .inl (G.1 1, 101, .inr (.inl (vp_updL (σ.2.1 27) j v)))) = hW G Z Y (sJ σ 27 j v) := rfl
theorem hg_28 (G : hG) (Z : hZ) (Y : va_W) (σ : hSt) : (hW G Z Y σ)[28]? = some (G.2.1 28, .inl (G.1 1, 101, .inr (.inl (σ.2.1 28)))) := rfl
theorem hp_28 (G : hG) (Z : hZ) (Y : va_W) (σ : hSt) (j : Nat) (v : Int64) : (hW G Z Y σ).set 28 (G.2.1 28, .inl (G.1 1, 101, .inr (.inl (vp_updL (σ.2.1 28) j v)))) = hW G Z Y (sJ σ 28 j v) := rfl
theorem hg_29 (G : hG) (Z : hZ) (Y : va_W) (σ : hSt) : (hW G Z Y σ)[29]? = some (G.2.1 29, .inl (G.1 1, 101, .inr (.inl (σ.2.1 29)))) := rfl
theorem hp_29 (G : hG) (Z : hZ) (Y : va_W) (σ : hSt) (j : Nat) (v : Int64) : (hW G Z Y σ).set 29 (G.2.1 29, .inl (G.1 1, 101, .inr (.inl (vp_updL (σ.2.1 29) j v)))) = hW G Z Y (sJ σ 29 j v) := rfl
theorem hg_30 (G : hG) (Z : hZ) (Y : va_W) (σ : hSt) : (hW G Z Y σ)[30]? = some (G.2.1 30, .inl (G.1 1, 101, .inr (.inl (σ.2.1 30)))) := rfl
theorem hp_30 (G : hG) (Z : hZ) (Y : va_W) (σ : hSt) (j : Nat) (v : Int64) : (hW G Z Y σ).set 30 (G.2.1 30, .inl (G.1 1, 101, .inr (.inl (vp_updL (σ.2.1 30) j v)))) = hW G Z Y (sJ σ 30 j v) := rfl
theorem hg_31 (G : hG) (Z : hZ) (Y : va_W) (σ : hSt) : (hW G Z Y σ)[31]? = some (G.2.1 31, .inl (G.1 1, 101, .inr (.inl (σ.2.1 31)))) := rfl
theorem hp_31 (G : hG) (Z : hZ) (Y : va_W) (σ : hSt) (j : Nat) (v : Int64) : (hW G Z Y σ).set 31 (G.2.1 31, .inl (G.1 1, 101, .inr (.inl (vp_updL (σ.2.1 31) j v)))) = hW G Z Y (sJ σ 31 j v) := rfl
theorem hg_32 (G : hG) (Z : hZ) (Y : va_W) (σ : hSt) : (hW G Z Y σ)[32]? = some (G.2.1 32, .inl (G.1 1, 101, .inr (.inl (σ.2.1 32)))) := rfl
theorem hp_32 (G : hG) (Z : hZ) (Y : va_W) (σ : hSt) (j : Nat) (v : Int64) : (hW G Z Y σ).set 32 (G.2.1 32, .inl (G.1 1, 101, .inr (.inl (vp_updL (σ.2.1 32) j v)))) = hW G Z Y (sJ σ 32 j v) := rfl
theorem hg_33 (G : hG) (Z : hZ) (Y : va_W) (σ : hSt) : (hW G Z Y σ)[33]? = some (G.2.1 33, .inl (G.1 1, 101, .inr (.inl (σ.2.1 33)))) := rfl
theorem hp_33 (G : hG) (Z : hZ) (Y : va_W) (σ : hSt) (j : Nat) (v : Int64) : (hW G Z Y σ).set 33 (G.2.1 33, .inl (G.1 1, 101, .inr (.inl (vp_updL (σ.2.1 33) j v)))) = hW G Z Y (sJ σ 33 j v) := rfl
theorem hg_34 (G : hG) (Z : hZ) (Y : va_W) (σ : hSt) : (hW G Z Y σ)[34]? = some (G.2.1 34, .inl (G.1 1, 101, .inr (.inl (σ.2.1 34)))) := rfl
theorem hp_34 (G : hG) (Z : hZ) (Y : va_W) (σ : hSt) (j : Nat) (v : Int64) : (hW G Z Y σ).set 34 (G.2.1 34, .inl (G.1 1, 101, .inr (.inl (vp_updL (σ.2.1 34) j v)))) = hW G Z Y (sJ σ 34 j v) := rfl
theorem hg_35 (G : hG) (Z : hZ) (Y : va_W) (σ : hSt) : (hW G Z Y σ)[35]? = some (G.2.1 35, .inl (G.1 1, 101, .inr (.inl (σ.2.1 35)))) := rfl
theorem hp_35 (G : hG) (Z : hZ) (Y : va_W) (σ : hSt) (j : Nat) (v : Int64) : (hW G Z Y σ).set 35 (G.2.1 35, .inl (G.1 1, 101, .inr (.inl (vp_updL (σ.2.1 35) j v)))) = hW G Z Y (sJ σ 35 j v) := rfl
theorem hg_36 (G : hG) (Z : hZ) (Y : va_W) (σ : hSt) : (hW G Z Y σ)[36]? = some (G.2.1 36, .inl (G.1 4, 6, .inr (.inr (.inr (.inr (fun i => if i < 6 then some (G.2.1 (24 + i)) else none)))))) := rfl
theorem hg_37 (G : hG) (Z : hZ) (Y : va_W) (σ : hSt) : (hW G Z Y σ)[37]? = some (G.2.1 37, .inl (G.1 4, 6, .inr (.inr (.inr (.inr (fun i => if i < 6 then some (G.2.1 (30 + i)) else none)))))) := rfl
theorem hg_38 (G : hG) (Z : hZ) (Y : va_W) (σ : hSt) : (hW G Z Y σ)[38]? = some (G.2.1 38, .inr (0, [.int (Z.2.2.1 38 0), va_rf ((Z.2.2.2 38 1).map G.2.1), .int (Z.2.2.1 38 2)])) := rfl
theorem hg_39 (G : hG) (Z : hZ) (Y : va_W) (σ : hSt) : (hW G Z Y σ)[39]? = some (G.2.1 39, .inr (0, [.int (Z.2.2.1 39 0), va_rf ((Z.2.2.2 39 1).map G.2.1), .int (Z.2.2.1 39 2)])) := rfl
theorem hg_40 (G : hG) (Z : hZ) (Y : va_W) (σ : hSt) : (hW G Z Y σ)[40]? = some (G.2.1 40, .inr (0, [.int (Z.2.2.1 40 0), va_rf ((Z.2.2.2 40 1).map G.2.1), .int (Z.2.2.1 40 2)])) := rfl
theorem hg_41 (G : hG) (Z : hZ) (Y : va_W) (σ : hSt) : (hW G Z Y σ)[41]? = some (G.2.1 41, .inr (0, [.int (Z.2.2.1 41 0), va_rf ((Z.2.2.2 41 1).map G.2.1), .int (Z.2.2.1 41 2)])) := rfl
theorem hg_42 (G : hG) (Z : hZ) (Y : va_W) (σ : hSt) : (hW G Z Y σ)[42]? = some (G.2.1 42, .inr (0, [.int (Z.2.2.1 42 0), va_rf ((Z.2.2.2 42 1).map G.2.1), .int (Z.2.2.1 42 2)])) := rfl
theorem hg_43 (G : hG) (Z : hZ) (Y : va_W) (σ : hSt) : (hW G Z Y σ)[43]? = some (G.2.1 43, .inl (G.1 0, 6, .inl (σ.1 43))) := rfl
theorem hp_43 (G : hG) (Z : hZ) (Y : va_W) (σ : hSt) (j : Nat) (v : Int32) : (hW G Z Y σ).set 43 (G.2.1 43, .inl (G.1 0, 6, .inl (upd (σ.1 43) j v))) = hW G Z Y (sI σ 43 j v) := rfl
theorem hg_44 (G : hG) (Z : hZ) (Y : va_W) (σ : hSt) : (hW G Z Y σ)[44]? = some (G.2.1 44, .inl (G.1 0, 6, .inl (σ.1 44))) := rfl
theorem hp_44 (G : hG) (Z : hZ) (Y : va_W) (σ : hSt) (j : Nat) (v : Int32) : (hW G Z Y σ).set 44 (G.2.1 44, .inl (G.1 0, 6, .inl (upd (σ.1 44) j v))) = hW G Z Y (sI σ 44 j v) := rfl
theorem isCo_or {r : Nat} (h : isCo r = true) : r = 14 ∨ r = 15 := by simpa [isCo] using h
theorem isRd_or {r : Nat} (h : isRd r = true) : r = 5 ∨ r = 6 := by simpa [isRd] using h
theorem hg_Co (G : hG) (Z : hZ) (Y : va_W) (σ : hSt) {r : Nat} (hr : isCo r = true) : (hW G Z Y σ)[r]? = some (G.2.1 r, .inr (2, [.ref (G.2.1 7), .ref (G.2.1 12), .ref (G.2.1 (r + 2)), .ref (G.2.1 (r + 22)), .ref (G.2.1 (r + 4)), .ref (G.2.1 (r + 6)), .ref (G.2.1 (r + 8)), va_rf ((σ.2.2 r 7).map G.2.1), va_rf ((σ.2.2 r 8).map G.2.1), .long (σ.2.1 r 9), .long (σ.2.1 r 10), .int (σ.1 r 11), .int (σ.1 r 12), .int (σ.1 r 13), .long (σ.2.1 r 14)])) := by rcases isCo_or hr with rfl | rfl <;> rfl
theorem hp_Co_7 (G : hG) (Z : hZ) (Y : va_W) (σ : hSt) {r : Nat} (hr : isCo r = true) (v : Option Nat) : (hW G Z Y σ).set r (G.2.1 r, .inr (2, ([.ref (G.2.1 7), .ref (G.2.1 12), .ref (G.2.1 (r + 2)), .ref (G.2.1 (r + 22)), .ref (G.2.1 (r + 4)), .ref (G.2.1 (r + 6)), .ref (G.2.1 (r + 8)), va_rf ((σ.2.2 r 7).map G.2.1), va_rf ((σ.2.2 r 8).map G.2.1), .long (σ.2.1 r 9), .long (σ.2.1 r 10), .int (σ.1 r 11), .int (σ.1 r 12), .int (σ.1 r 13), .long (σ.2.1 r 14)] : List Value).set 7 (va_rf (v.map G.2.1)))) = hW G Z Y (sR σ r 7 v) := by rcases isCo_or hr with rfl | rfl <;> rfl
theorem hp_Co_8 (G : hG) (Z : hZ) (Y : va_W) (σ : hSt) {r : Nat} (hr : isCo r = true) (v : Option Nat) : (hW G Z Y σ).set r (G.2.1 r, .inr (2, ([.ref (G.2.1 7), .ref (G.2.1 12), .ref (G.2.1 (r + 2)), .ref (G.2.1 (r + 22)), .ref (G.2.1 (r + 4)), .ref (G.2.1 (r + 6)), .ref (G.2.1 (r + 8)), va_rf ((σ.2.2 r 7).map G.2.1), va_rf ((σ.2.2 r 8).map G.2.1), .long (σ.2.1 r 9), .long (σ.2.1 r 10), .int (σ.1 r 11), .int (σ.1 r 12), .int (σ.1 r 13), .long (σ.2.1 r 14)] : List Value).set 8 (va_rf (v.map G.2.1)))) = hW G Z Y (sR σ r 8 v) := by rcases isCo_or hr with rfl | rfl <;> rfl
theorem hp_Co_9 (G : hG) (Z : hZ) (Y : va_W) (σ : hSt) {r : Nat} (hr : isCo r = true) (v : Int64) : (hW G Z Y σ).set r (G.2.1 r, .inr (2, ([.ref (G.2.1 7), .ref (G.2.1 12), .ref (G.2.1 (r + 2)), .ref (G.2.1 (r + 22)), .ref (G.2.1 (r + 4)), .ref (G.2.1 (r + 6)), .ref (G.2.1 (r + 8)), va_rf ((σ.2.2 r 7).map G.2.1), va_rf ((σ.2.2 r 8).map G.2.1), .long (σ.2.1 r 9), .long (σ.2.1 r 10), .int (σ.1 r 11), .int (σ.1 r 12), .int (σ.1 r 13), .long (σ.2.1 r 14)] : List Value).set 9 (.long v))) = hW G Z Y (sJ σ r 9 v) := by rcases isCo_or hr with rfl | rfl <;> rfl
theorem hp_Co_10 (G : hG) (Z : hZ) (Y : va_W) (σ : hSt) {r : Nat} (hr : isCo r = true) (v : Int64) : (hW G Z Y σ).set r (G.2.1 r, .inr (2, ([.ref (G.2.1 7), .ref (G.2.1 12), .ref (G.2.1 (r + 2)), .ref (G.2.1 (r + 22)), .ref (G.2.1 (r + 4)), .ref (G.2.1 (r + 6)), .ref (G.2.1 (r + 8)), va_rf ((σ.2.2 r 7).map G.2.1), va_rf ((σ.2.2 r 8).map G.2.1), .long (σ.2.1 r 9), .long (σ.2.1 r 10), .int (σ.1 r 11), .int (σ.1 r 12), .int (σ.1 r 13), .long (σ.2.1 r 14)] : List Value).set 10 (.long v))) = hW G Z Y (sJ σ r 10 v) := by rcases isCo_or hr with rfl | rfl <;> rfl
theorem hp_Co_11 (G : hG) (Z : hZ) (Y : va_W) (σ : hSt) {r : Nat} (hr : isCo r = true) (v : Int32) : (hW G Z Y σ).set r (G.2.1 r, .inr (2, ([.ref (G.2.1 7), .ref (G.2.1 12), .ref (G.2.1 (r + 2)), .ref (G.2.1 (r + 22)), .ref (G.2.1 (r + 4)), .ref (G.2.1 (r + 6)), .ref (G.2.1 (r + 8)), va_rf ((σ.2.2 r 7).map G.2.1), va_rf ((σ.2.2 r 8).map G.2.1), .long (σ.2.1 r 9), .long (σ.2.1 r 10), .int (σ.1 r 11), .int (σ.1 r 12), .int (σ.1 r 13), .long (σ.2.1 r 14)] : List Value).set 11 (.int v))) = hW G Z Y (sI σ r 11 v) := by rcases isCo_or hr with rfl | rfl <;> rfl
theorem hp_Co_12 (G : hG) (Z : hZ) (Y : va_W) (σ : hSt) {r : Nat} (hr : isCo r = true) (v : Int32) : (hW G Z Y σ).set r (G.2.1 r, .inr (2, ([.ref (G.2.1 7), .ref (G.2.1 12), .ref (G.2.1 (r + 2)), .ref (G.2.1 (r + 22)), .ref (G.2.1 (r + 4)), .ref (G.2.1 (r + 6)), .ref (G.2.1 (r + 8)), va_rf ((σ.2.2 r 7).map G.2.1), va_rf ((σ.2.2 r 8).map G.2.1), .long (σ.2.1 r 9), .long (σ.2.1 r 10), .int (σ.1 r 11), .int (σ.1 r 12), .int (σ.1 r 13), .long (σ.2.1 r 14)] : List Value).set 12 (.int v))) = hW G Z Y (sI σ r 12 v) := by rcases isCo_or hr with rfl | rfl <;> rfl
theorem hp_Co_13 (G : hG) (Z : hZ) (Y : va_W) (σ : hSt) {r : Nat} (hr : isCo r = true) (v : Int32) : (hW G Z Y σ).set r (G.2.1 r, .inr (2, ([.ref (G.2.1 7), .ref (G.2.1 12), .ref (G.2.1 (r + 2)), .ref (G.2.1 (r + 22)), .ref (G.2.1 (r + 4)), .ref (G.2.1 (r + 6)), .ref (G.2.1 (r + 8)), va_rf ((σ.2.2 r 7).map G.2.1), va_rf ((σ.2.2 r 8).map G.2.1), .long (σ.2.1 r 9), .long (σ.2.1 r 10), .int (σ.1 r 11), .int (σ.1 r 12), .int (σ.1 r 13), .long (σ.2.1 r 14)] : List Value).set 13 (.int v))) = hW G Z Y (sI σ r 13 v) := by rcases isCo_or hr with rfl | rfl <;> rfl
theorem hp_Co_14 (G : hG) (Z : hZ) (Y : va_W) (σ : hSt) {r : Nat} (hr : isCo r = true) (v : Int64) : (hW G Z Y σ).set r (G.2.1 r, .inr (2, ([.ref (G.2.1 7), .ref (G.2.1 12), .ref (G.2.1 (r + 2)), .ref (G.2.1 (r + 22)), .ref (G.2.1 (r + 4)), .ref (G.2.1 (r + 6)), .ref (G.2.1 (r + 8)), va_rf ((σ.2.2 r 7).map G.2.1), va_rf ((σ.2.2 r 8).map G.2.1), .long (σ.2.1 r 9), .long (σ.2.1 r 10), .int (σ.1 r 11), .int (σ.1 r 12), .int (σ.1 r 13), .long (σ.2.1 r 14)] : List Value).set 14 (.long v))) = hW G Z Y (sJ σ r 14 v) := by rcases isCo_or hr with rfl | rfl <;> rfl
theorem hg_Cole (G : hG) (Z : hZ) (Y : va_W) (σ : hSt) {r : Nat} (hr : isCo r = true) : (hW G Z Y σ)[r + 2]? = some (G.2.1 (r + 2), .inl (G.1 1, 10, .inr (.inl (σ.2.1 (r + 2))))) := by rcases isCo_or hr with rfl | rfl <;> rfl
theorem hp_Cole (G : hG) (Z : hZ) (Y : va_W) (σ : hSt) {r : Nat} (hr : isCo r = true) (j : Nat) (v : Int64) : (hW G Z Y σ).set (r + 2) (G.2.1 (r + 2), .inl (G.1 1, 10, .inr (.inl (vp_updL (σ.2.1 (r + 2)) j v)))) = hW G Z Y (sJ σ (r + 2) j v) := by rcases isCo_or hr with rfl | rfl <;> rfl
theorem hg_Codr (G : hG) (Z : hZ) (Y : va_W) (σ : hSt) {r : Nat} (hr : isCo r = true) : (hW G Z Y σ)[r + 4]? = some (G.2.1 (r + 4), .inl (G.1 1, 6, .inr (.inl (σ.2.1 (r + 4))))) := by rcases isCo_or hr with rfl | rfl <;> rfl
theorem hp_Codr (G : hG) (Z : hZ) (Y : va_W) (σ : hSt) {r : Nat} (hr : isCo r = true) (j : Nat) (v : Int64) : (hW G Z Y σ).set (r + 4) (G.2.1 (r + 4), .inl (G.1 1, 6, .inr (.inl (vp_updL (σ.2.1 (r + 4)) j v)))) = hW G Z Y (sJ σ (r + 4) j v) := by rcases isCo_or hr with rfl | rfl <;> rfl
theorem hg_Cotr (G : hG) (Z : hZ) (Y : va_W) (σ : hSt) {r : Nat} (hr : isCo r = true) : (hW G Z Y σ)[r + 6]? = some (G.2.1 (r + 6), .inl (G.1 1, 101, .inr (.inl (σ.2.1 (r + 6))))) := by rcases isCo_or hr with rfl | rfl <;> rfl
theorem hp_Cotr (G : hG) (Z : hZ) (Y : va_W) (σ : hSt) {r : Nat} (hr : isCo r = true) (j : Nat) (v : Int64) : (hW G Z Y σ).set (r + 6) (G.2.1 (r + 6), .inl (G.1 1, 101, .inr (.inl (vp_updL (σ.2.1 (r + 6)) j v)))) = hW G Z Y (sJ σ (r + 6) j v) := by rcases isCo_or hr with rfl | rfl <;> rfl
theorem hg_Coft (G : hG) (Z : hZ) (Y : va_W) (σ : hSt) {r : Nat} (hr : isCo r = true) : (hW G Z Y σ)[r + 8]? = some (G.2.1 (r + 8), .inl (G.1 1, 101, .inr (.inl (σ.2.1 (r + 8))))) := by rcases isCo_or hr with rfl | rfl <;> rfl
theorem hp_Coft (G : hG) (Z : hZ) (Y : va_W) (σ : hSt) {r : Nat} (hr : isCo r = true) (j : Nat) (v : Int64) : (hW G Z Y σ).set (r + 8) (G.2.1 (r + 8), .inl (G.1 1, 101, .inr (.inl (vp_updL (σ.2.1 (r + 8)) j v)))) = hW G Z Y (sJ σ (r + 8) j v) := by rcases isCo_or hr with rfl | rfl <;> rfl
theorem hg_Cogr (G : hG) (Z : hZ) (Y : va_W) (σ : hSt) {r : Nat} (hr : isCo r = true) : (hW G Z Y σ)[r + 22]? = some (G.2.1 (r + 22), .inl (G.1 4, 6, .inr (.inr (.inr (.inr (fun i => if i < 6 then some (G.2.1 (24 + 6 * (r - 14) + i)) else none)))))) := by rcases isCo_or hr with rfl | rfl <;> rfl
theorem hg_Rd (G : hG) (Z : hZ) (Y : va_W) (σ : hSt) {r : Nat} (hr : isRd r = true) : (hW G Z Y σ)[r]? = some (G.2.1 r, .inr (10, [.ref (G.2.1 1), .ref (G.2.2 (2 * (r - 5))), .ref (G.2.2 (2 * (r - 5) + 1))])) := by rcases isRd_or hr with rfl | rfl <;> rfl
theorem isSt_Rd0 {r : Nat} (hr : isRd r = true) : isSt (2 * (r - 5)) = true := by rcases isRd_or hr with rfl | rfl <;> rfl
theorem isSt_Rd1 {r : Nat} (hr : isRd r = true) : isSt (2 * (r - 5) + 1) = true := by rcases isRd_or hr with rfl | rfl <;> rfl
theorem jlen_ge (r : Nat) : jlen (r + 36) = 0 := rfl
theorem hg_J (G : hG) (Z : hZ) (Y : va_W) (σ : hSt) : ∀ {r : Nat} (_ : isJ r = true), (hW G Z Y σ)[r]? = some (G.2.1 r, .inl (G.1 1, jlen r, .inr (.inl (σ.2.1 r))))
  | 0, h => absurd h (by decide)
  | 1, h => absurd h (by decide)
  | 2, h => absurd h (by decide)
  | 3, h => absurd h (by decide)
  | 4, h => absurd h (by decide)
  | 5, h => absurd h (by decide)
  | 6, h => absurd h (by decide)
  | 7, h => absurd h (by decide)
  | 8, _ => rfl
  | 9, _ => rfl
  | 10, _ => rfl
  | 11, _ => rfl
  | 12, h => absurd h (by decide)
  | 13, _ => rfl
  | 14, h => absurd h (by decide)
  | 15, h => absurd h (by decide)
  | 16, _ => rfl
  | 17, _ => rfl
  | 18, _ => rfl
  | 19, _ => rfl
  | 20, _ => rfl
  | 21, _ => rfl
  | 22, _ => rfl
  | 23, _ => rfl
  | 24, _ => rfl
  | 25, _ => rfl
  | 26, _ => rfl
  | 27, _ => rfl
  | 28, _ => rfl
  | 29, _ => rfl
  | 30, _ => rfl
  | 31, _ => rfl
  | 32, _ => rfl
  | 33, _ => rfl
  | 34, _ => rfl
  | 35, _ => rfl
  | _ + 36, h => absurd h (by simp [isJ, jlen_ge])
theorem hp_J (G : hG) (Z : hZ) (Y : va_W) (σ : hSt) : ∀ {r : Nat} (_ : isJ r = true) (j : Nat) (v : Int64), (hW G Z Y σ).set r (G.2.1 r, .inl (G.1 1, jlen r, .inr (.inl (vp_updL (σ.2.1 r) j v)))) = hW G Z Y (sJ σ r j v)
  | 0, h, _, _ => absurd h (by decide)
  | 1, h, _, _ => absurd h (by decide)
  | 2, h, _, _ => absurd h (by decide)
  | 3, h, _, _ => absurd h (by decide)
  | 4, h, _, _ => absurd h (by decide)
  | 5, h, _, _ => absurd h (by decide)
  | 6, h, _, _ => absurd h (by decide)
  | 7, h, _, _ => absurd h (by decide)
  | 8, _, _, _ => rfl
  | 9, _, _, _ => rfl
  | 10, _, _, _ => rfl
  | 11, _, _, _ => rfl
  | 12, h, _, _ => absurd h (by decide)
  | 13, _, _, _ => rfl
  | 14, h, _, _ => absurd h (by decide)
  | 15, h, _, _ => absurd h (by decide)
  | 16, _, _, _ => rfl
  | 17, _, _, _ => rfl
  | 18, _, _, _ => rfl
  | 19, _, _, _ => rfl
  | 20, _, _, _ => rfl
  | 21, _, _, _ => rfl
  | 22, _, _, _ => rfl
  | 23, _, _, _ => rfl
  | 24, _, _, _ => rfl
  | 25, _, _, _ => rfl
  | 26, _, _, _ => rfl
  | 27, _, _, _ => rfl
  | 28, _, _, _ => rfl
  | 29, _, _, _ => rfl
  | 30, _, _, _ => rfl
  | 31, _, _, _ => rfl
  | 32, _, _, _ => rfl
  | 33, _, _, _ => rfl
  | 34, _, _, _ => rfl
  | 35, _, _, _ => rfl
  | _ + 36, h, _, _ => absurd h (by simp [isJ, jlen_ge])
theorem hg_dyi (G : hG) (Z : hZ) (Y : va_W) (σ : hSt) {r : Nat} (hr : r ∈ Z.1) : ∃ i : Nat, Z.1[i]? = some r ∧ (hW G Z Y σ)[45 + i]? = some (G.2.1 r, hd G Z r) := by
  obtain ⟨i, hi⟩ := List.getElem?_of_mem hr
  have hl : i < (hdyn G Z).length := by unfold hdyn; rw [List.length_map]; exact (List.getElem?_eq_some_iff.mp hi).1
  refine ⟨i, hi, ?_⟩
  show (hW G Z Y σ)[(hfix G Z σ).length + i]? = _
  unfold hW
  rw [List.getElem?_append_right (Nat.le_add_right _ _), Nat.add_sub_cancel_left, List.getElem?_append_left hl]
  unfold hdyn
  rw [List.getElem?_map, hi]
  rfl
theorem hg_dyn (G : hG) (Z : hZ) (Y : va_W) (σ : hSt) {r : Nat} (hr : r ∈ Z.1) : ∃ q : Nat, (hW G Z Y σ)[q]? = some (G.2.1 r, hd G Z r) := by
  obtain ⟨i, -, h⟩ := hg_dyi G Z Y σ hr
  exact ⟨_, h⟩
theorem ad_inj {G : hG} {Z : hZ} {Y : va_W} {σ : hSt} {A : Nat → Prop} (hD : va_D A (hW G Z Y σ)) {a b : Nat} (ha : a ∈ Z.1) (hb : b ∈ Z.1) (h : G.2.1 a = G.2.1 b) : a = b := by
  obtain ⟨i, hi, h1⟩ := hg_dyi G Z Y σ ha
  obtain ⟨j, hj, h2⟩ := hg_dyi G Z Y σ hb
  have e := hD.1 _ _ _ _ h1 h2 h
  have e2 : i = j := by omega
  subst e2
  rw [hi] at hj
  exact Option.some.inj hj
theorem hg_Sa (G : hG) (Z : hZ) (Y : va_W) (σ : hSt) {r : Nat} (hr : isSa Z r = true) : ∃ q : Nat, (hW G Z Y σ)[q]? = some (G.2.1 r, .inr (5, [.ref (G.2.1 (r + 1000)), .ref (G.2.1 (r + 2000)), .int (Z.2.2.1 r 2), .int (Z.2.2.1 r 3), .int (Z.2.2.1 r 4)])) := by
  simp only [isSa, Bool.and_eq_true, Bool.or_eq_true, decide_eq_true_eq, beq_iff_eq] at hr
  obtain ⟨⟨hm, h2⟩, -⟩ := hr
  obtain ⟨q, hq⟩ := hg_dyn G Z Y σ hm
  refine ⟨q, hq.trans ?_⟩
  congr 2
  unfold hd
  rw [if_pos h2]
theorem hg_Ar (G : hG) (Z : hZ) (Y : va_W) (σ : hSt) {r : Nat} (hr : isAr Z r = true) : ∃ q : Nat, (hW G Z Y σ)[q]? = some (G.2.1 r, .inl (G.1 0, Z.2.1 r, .inl (Z.2.2.1 r))) := by
  simp only [isAr, Bool.and_eq_true, Bool.or_eq_true, decide_eq_true_eq, beq_iff_eq] at hr
  obtain ⟨hm, h2⟩ := hr
  obtain ⟨q, hq⟩ := hg_dyn G Z Y σ hm
  refine ⟨q, hq.trans ?_⟩
  congr 2
  unfold hd
  rcases h2 with ((h2 | h2) | h2) | h2 <;> simp [h2]
theorem hg_Te (G : hG) (Z : hZ) (Y : va_W) (σ : hSt) {r : Nat} (hr : isTe Z r = true) : ∃ q : Nat, (hW G Z Y σ)[q]? = some (G.2.1 r, .inr (9, [.ref (G.2.1 (r + 2000))])) := by
  simp only [isTe, Bool.and_eq_true, Bool.or_eq_true, decide_eq_true_eq, beq_iff_eq] at hr
  obtain ⟨⟨hm, h2⟩, -⟩ := hr
  obtain ⟨q, hq⟩ := hg_dyn G Z Y σ hm
  refine ⟨q, hq.trans ?_⟩
  congr 2
  unfold hd
  rcases h2 with h2 | h2 <;> simp [h2]
theorem hg_Ta (G : hG) (Z : hZ) (Y : va_W) (σ : hSt) {r : Nat} (hr : isTa Z r = true) : ∃ q : Nat, (hW G Z Y σ)[q]? = some (G.2.1 r, .inr (7, [va_rf ((Z.2.2.2 r 0).map G.2.1), .int (Z.2.2.1 r 1), va_rf ((Z.2.2.2 r 2).map G.2.1), va_rf ((Z.2.2.2 r 3).map G.2.1)])) := by
  simp only [isTa, Bool.and_eq_true, Bool.or_eq_true, decide_eq_true_eq, beq_iff_eq] at hr
  obtain ⟨hm, h2⟩ := hr
  obtain ⟨q, hq⟩ := hg_dyn G Z Y σ hm
  refine ⟨q, hq.trans ?_⟩
  congr 2
  unfold hd
  simp [h2]
theorem hg_Ne (G : hG) (Z : hZ) (Y : va_W) (σ : hSt) {r : Nat} (hr : isNe Z r = true) : ∃ q : Nat, (hW G Z Y σ)[q]? = some (G.2.1 r, .inr (3, [.int (Z.2.2.1 r 0), .int (Z.2.2.1 r 1)])) := by
  simp only [isNe, Bool.and_eq_true, Bool.or_eq_true, decide_eq_true_eq, beq_iff_eq] at hr
  obtain ⟨hm, h2⟩ := hr
  obtain ⟨q, hq⟩ := hg_dyn G Z Y σ hm
  refine ⟨q, hq.trans ?_⟩
  congr 2
  unfold hd
  simp [h2]
theorem hg_El (G : hG) (Z : hZ) (Y : va_W) (σ : hSt) {r : Nat} (hr : isEl Z r = true) : ∃ q : Nat, (hW G Z Y σ)[q]? = some (G.2.1 r, .inl (G.1 3, Z.2.1 r, .inr (.inr (.inr (.inr (fun i => (Z.2.2.2 r i).map G.2.1)))))) := by
  simp only [isEl, Bool.and_eq_true, Bool.or_eq_true, decide_eq_true_eq, beq_iff_eq] at hr
  obtain ⟨hm, h2⟩ := hr
  obtain ⟨q, hq⟩ := hg_dyn G Z Y σ hm
  refine ⟨q, hq.trans ?_⟩
  congr 2
  unfold hd
  simp [h2]
theorem isTa_mem {Z : hZ} {r : Nat} (h : isTa Z r = true) : r ∈ Z.1 := by
  simp only [isTa, Bool.and_eq_true, decide_eq_true_eq] at h
  exact h.1
theorem isSa_code {Z : hZ} {r : Nat} (h : isSa Z r = true) : isAr Z (r + 1000) = true := by
  simp only [isSa, isAr, Bool.and_eq_true, Bool.or_eq_true, decide_eq_true_eq, beq_iff_eq] at h ⊢
  obtain ⟨⟨hm, h2⟩, h3⟩ := h
  refine ⟨h3.1, by omega⟩
theorem isSa_steeps {Z : hZ} {r : Nat} (h : isSa Z r = true) : isAr Z (r + 2000) = true := by
  simp only [isSa, isAr, Bool.and_eq_true, Bool.or_eq_true, decide_eq_true_eq, beq_iff_eq] at h ⊢
  obtain ⟨⟨hm, h2⟩, h3⟩ := h
  refine ⟨h3.2, by omega⟩
theorem isTe_code {Z : hZ} {r : Nat} (h : isTe Z r = true) : isAr Z (r + 2000) = true := by
  simp only [isTe, isAr, Bool.and_eq_true, Bool.or_eq_true, decide_eq_true_eq, beq_iff_eq] at h ⊢
  obtain ⟨⟨hm, h2⟩, h3⟩ := h
  refine ⟨h3, by omega⟩
theorem isJ_Cole {r : Nat} (hr : isCo r = true) : isJ (r + 2) = true := by rcases isCo_or hr with rfl | rfl <;> rfl
theorem isJ_Codr {r : Nat} (hr : isCo r = true) : isJ (r + 4) = true := by rcases isCo_or hr with rfl | rfl <;> rfl
theorem isJ_Cotr {r : Nat} (hr : isCo r = true) : isJ (r + 6) = true := by rcases isCo_or hr with rfl | rfl <;> rfl
theorem isJ_Coft {r : Nat} (hr : isCo r = true) : isJ (r + 8) = true := by rcases isCo_or hr with rfl | rfl <;> rfl
theorem isJ_Corow {r k : Nat} (hr : isCo r = true) (hk : k < 6) : isJ (24 + 6 * (r - 14) + k) = true := by
  have : ∀ k, k < 6 → isJ (24 + 6 * (14 - 14) + k) = true ∧ isJ (24 + 6 * (15 - 14) + k) = true := by decide
  rcases isCo_or hr with rfl | rfl
  · exact (this k hk).1
  · exact (this k hk).2
theorem hg_Li (G : hG) (Z : hZ) (Y : va_W) (σ : hSt) {r : Nat} (hr : isLi r = true) : (hW G Z Y σ)[r]? = some (G.2.1 r, .inr (0, [.int (Z.2.2.1 r 0), va_rf ((Z.2.2.2 r 1).map G.2.1), .int (Z.2.2.1 r 2)])) := by
  simp only [isLi, Bool.and_eq_true, decide_eq_true_eq] at hr
  have : r = 38 ∨ r = 39 ∨ r = 40 ∨ r = 41 ∨ r = 42 := by omega
  rcases this with rfl | rfl | rfl | rfl | rfl <;> rfl
theorem f_oc {α : Type} {o : Option Nat} {P : Nat → Bool} {k : Nat → Option α} {x : α} (h : oc o none (fun r => if P r = true then k r else none) = some x) : ∃ r, o = some r ∧ P r = true ∧ k r = some x := by
  cases o with
  | none => cases h
  | some r => exact ⟨r, rfl, f_c h⟩
theorem f_o {β : Type} {o : Option Nat} {n : β} {k : Nat → β} {x : β} (h : oc o n k = x) : (o = none ∧ n = x) ∨ ∃ r, o = some r ∧ k r = x := by
  cases o with
  | none => exact Or.inl ⟨rfl, h⟩
  | some r => exact Or.inr ⟨r, rfl, h⟩
