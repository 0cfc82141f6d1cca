theorem fc_0 : fw_cal 0 0 := ⟨tw_20, tw_1, ⟨by decide +kernel, by decide +kernel, by decide +kernel⟩, by decide +kernel⟩
theorem fc_130 : fw_cal 130 0 := ⟨tw_834, tw_12, ⟨by decide +kernel, by decide +kernel, by decide +kernel⟩, by decide +kernel⟩
def v0_l : List (Nat → Int32) := [
  fun i => [0, 0, 0].getD i (0 : Int32),
  fun i => [(16 : Int32), (37 : Int32), 0, 0, 0].getD i (0 : Int32),
  fun _ => 0,
  fun _ => 0,
  fun i => [(16 : Int32), (37 : Int32), 0, 0, 0].getD i (0 : Int32),
  fun _ => 0,
  fun _ => 0,
  fun _ => 0,
  fun _ => 0,
  fun i => [(0 : Int32), 0, 0, 0, 0, 0, 0, 0, 0, 0, 0, 0, 0, (-1 : Int32)].getD i (0 : Int32),
  fun _ => 0,
  fun i => [(8 : Int32), (49 : Int32), 0, 0, 0].getD i (0 : Int32),
  fun _ => 0,
  fun _ => 0,
  fun i => [(0 : Int32), 0, 0, 0, 0, 0, 0].getD i (0 : Int32),
  fun i => [(4 : Int32), (34 : Int32), 0, 0, 0].getD i (0 : Int32),
  fun _ => 0,
  fun _ => 0,
  fun _ => 0,
  fun i => [0, 0, 0, 0, 0].getD i (0 : Int32),
  fun i => [0, 0, 0, 0, 0, 0].getD i (0 : Int32),
  fun _ => 0,
  fun i => [0, 0, 0, 0, 0, 0].getD i (0 : Int32),
  fun _ => 0,
  fun i => [0, 0, 0, 0, 0, 0, 0].getD i (0 : Int32),
  fun i => [(0 : Int32), (1 : Int32), 0, 0, 0, 0, 0, 0, (4 : Int32), 0].getD i (0 : Int32),
  fun _ => 0,
  fun i => [0, 0, 0, 0, 0, 0, 0].getD i (0 : Int32),
  fun _ => 0,
  fun i => [0, 0, 0, 0, (-1 : Int32)].getD i (0 : Int32),
  fun _ => 0,
  fun i => if i < 32 then (-1 : Int32) else (fun _ => 0) i,
  fun i => [(0 : Int32), (2 : Int32), 0, 0, 0, 0, 0, 0, (4 : Int32), 0].getD i (0 : Int32),
  fun _ => 0,
  fun i => [0, 0, 0, 0, 0, 0, 0].getD i (0 : Int32),
  fun _ => 0,
  fun i => [0, 0, 0, 0, (-1 : Int32)].getD i (0 : Int32),
  fun _ => 0,
  fun i => if i < 32 then (-1 : Int32) else (fun _ => 0) i,
  fun _ => 0,
  fun _ => 0,
  fun _ => 0,
  fun i => [(1 : Int32), 0, 0, 0, 0, 0, 0, 0, 0, 0, 0, 0, 0, (-1 : Int32)].getD i (0 : Int32),
  fun _ => 0,
  fun i => [(8 : Int32), (49 : Int32), 0, 0, 0].getD i (0 : Int32),
  fun _ => 0,
  fun _ => 0,
  fun i => [(1 : Int32), 0, 0, 0, 0, 0, 0].getD i (0 : Int32),
  fun i => [(4 : Int32), (34 : Int32), 0, 0, 0].getD i (0 : Int32),
  fun _ => 0,
  fun _ => 0,
  fun _ => 0,
  fun i => [0, 0, 0, 0, 0].getD i (0 : Int32),
  fun i => [0, 0, 0, 0, 0, 0].getD i (0 : Int32),
  fun _ => 0,
  fun i => [0, 0, 0, 0, 0, 0].getD i (0 : Int32),
  fun _ => 0,
  fun i => [0, 0, 0, 0, 0, 0, 0].getD i (0 : Int32),
  fun i => [(1 : Int32), (1 : Int32), 0, 0, 0, 0, 0, 0, (4 : Int32), 0].getD i (0 : Int32),
  fun _ => 0,
  fun i => [0, 0, 0, 0, 0, 0, 0].getD i (0 : Int32),
  fun _ => 0,
  fun i => [0, 0, 0, 0, (-1 : Int32)].getD i (0 : Int32),
  fun _ => 0,
  fun i => if i < 32 then (-1 : Int32) else (fun _ => 0) i,
  fun i => [(1 : Int32), (2 : Int32), 0, 0, 0, 0, 0, 0, (4 : Int32), 0].getD i (0 : Int32),
  fun _ => 0,
  fun i => [0, 0, 0, 0, 0, 0, 0].getD i (0 : Int32),
  fun _ => 0,
  fun i => [0, 0, 0, 0, (-1 : Int32)].getD i (0 : Int32),
  fun _ => 0,
  fun i => if i < 32 then (-1 : Int32) else (fun _ => 0) i,
  fun _ => 0,
  fun _ => 0,
  fun _ => 0,
  fun i => [0, 0, 0, 0, 0, 0, 0, 0, 0, 0, 0, 0, 0, 0, 0, 0, 0, 0, 0, 0, 0, 0, 0, 0, 0, 0, 0, 0, 0, 0, 0, 0, 0, 0, 0, 0, 0, 0, 0, 0, 0, 0, 0, 0, 0, 0, 0, 0, 0, 0].getD i (0 : Int32),
  fun _ => 0,
  fun _ => 0,
  fun _ => 0,
  fun _ => 0,
  fun _ => 0,
  fun _ => 0,
  fun _ => 0,
  fun _ => 0,
  fun _ => 0,
  fun _ => 0,
  fun _ => 0,
  upd (upd (fun _ => 0) 0 (-1 : Int32)) 1 (-1 : Int32),
  fun _ => 0,
  fun _ => 0,
  fun _ => 0,
  fun _ => 0,
  fun _ => 0,
  fun _ => 0,
  fun _ => 0,
  fun _ => 0,
  fun _ => 0,
  fun _ => 0,
  fun _ => 0,
  fun _ => 0,
  fun _ => 0,
  fun _ => 0,
  fun _ => 0,
  fun _ => 0,
  fun _ => 0,
  fun _ => 0,
  fun _ => 0,
  fun _ => 0,
  fun _ => 0,
  upd (upd (upd (upd (fun _ => 0) 0 (-1 : Int32)) 1 (-1 : Int32)) 2 (-1 : Int32)) 3 (-1 : Int32),
  fun _ => 0,
  upd (upd (upd (upd (fun _ => 0) 0 (4 : Int32)) 1 (4 : Int32)) 2 (4 : Int32)) 3 (4 : Int32),
  fun _ => 0,
  fun _ => 0,
  fun _ => 0,
  fun _ => 0,
  fun _ => 0]
def v0 : sv_T := fun q i => (v0_l.getD q (fun _ => 0)) i
def v0_W : fw_E := (.inr (0, [.ref (1 + 6), .ref (1 + 7), .int 0]))
def v0_lW : List fw_E := [.inr (1, [.int (16 : Int32), .int (37 : Int32), .ref (1 + 1), .ref (1 + 2), .int 0]), .inl (0, 629, .inl (fun _ => 0)), .inl (0, 17, .inl (fun _ => 0)), .inr (1, [.int (16 : Int32), .int (37 : Int32), .ref (1 + 4), .ref (1 + 5), .int 0]), .inl (0, 629, .inl (fun _ => 0)), .inl (0, 17, .inl (fun _ => 0)), .inl (2, 2, .inr (.inr (.inr (.inr (va_up (va_up (fun _ => none) 0 (some (1 + 0))) 1 (some (1 + 3))))))), .inl (3, 2, .inr (.inr (.inr (.inr (va_up (va_up (fun _ => none) 0 (some (1 + 8))) 1 (some (1 + 41))))))), .inr (2, [.int (0 : Int32), .ref (1 + 13), .ref (1 + 18), .ref (1 + 23), .ref (1 + 24), .ref (1 + 31), .ref (1 + 10), .ref (1 + 9), .ref (1 + 38), .ref (1 + 39), .ref (1 + 40), .int 0, .int 0, .int (-1 : Int32)]), .inl (0, 48, .inl (fun _ => 0)), .inr (1, [.int (8 : Int32), .int (49 : Int32), .ref (1 + 11), .ref (1 + 12), .int 0]), .inl (0, 441, .inl (fun _ => 0)), .inl (0, 9, .inl (fun _ => 0)), .inr (3, [.int (0 : Int32), .ref (1 + 3), .ref (1 + 14), .ref (1 + 17), .int 0, .int 0, .int 0]), .inr (1, [.int (4 : Int32), .int (34 : Int32), .ref (1 + 15), .ref (1 + 16), .int 0]), .inl (0, 170, .inl (fun _ => 0)), .inl (0, 5, .inl (fun _ => 0)), .inl (0, 37, .inl (fun _ => 0)), .inr (4, [.ref (1 + 19), .ref (1 + 21), .ref (1 + 9), .int 0, .int 0]), .inr (5, [.ref (1 + 20), .int 0, .int 0, .int 0, .int 0, .int 0]), .inl (0, 48, .inl (fun _ => 0)), .inr (5, [.ref (1 + 22), .int 0, .int 0, .int 0, .int 0, .int 0]), .inl (0, 48, .inl (fun _ => 0)), .inr (6, [.ref (1 + 9), .int 0, .int 0, .int 0, .int 0, .int 0, .int 0]), .inr (7, [.int (0 : Int32), .int (1 : Int32), .ref (1 + 10), .ref (1 + 25), .ref (1 + 26), .ref (1 + 28), .int 0, .int 0, .int (4 : Int32), .int 0]), .inl (0, 49, .inl (fun _ => 0)), .inr (8, [.ref (1 + 27), .int 0, .int 0, .int 0, .int 0, .int 0, .int 0]), .inl (0, 64, .inl (fun _ => 0)), .inr (9, [.ref (1 + 29), .ref (1 + 30), .int 0, .int 0, .int (-1 : Int32)]), .inl (0, 24, .inl (fun _ => 0)), .inl (0, 32, .inl (fun i => if i < 32 then (-1 : Int32) else (fun _ => 0) i)), .inr (7, [.int (0 : Int32), .int (2 : Int32), .ref (1 + 10), .ref (1 + 32), .ref (1 + 33), .ref (1 + 35), .int 0, .int 0, .int (4 : Int32), .int 0]), .inl (0, 49, .inl (fun _ => 0)), .inr (8, [.ref (1 + 34), .int 0, .int 0, .int 0, .int 0, .int 0, .int 0]), .inl (0, 64, .inl (fun _ => 0)), .inr (9, [.ref (1 + 36), .ref (1 + 37), .int 0, .int 0, .int (-1 : Int32)]), .inl (0, 24, .inl (fun _ => 0)), .inl (0, 32, .inl (fun i => if i < 32 then (-1 : Int32) else (fun _ => 0) i)), .inl (0, 37, .inl (fun _ => 0)), .inl (0, 34, .inl (fun _ => 0)), .inl (0, 49, .inl (fun _ => 0)), .inr (2, [.int (1 : Int32), .ref (1 + 46), .ref (1 + 51), .ref (1 + 56), .ref (1 + 57), .ref (1 + 64), .ref (1 + 43), .ref (1 + 42), .ref (1 + 71), .ref (1 + 72), .ref (1 + 73), .int 0, .int 0, .int (-1 : Int32)]), .inl (0, 48, .inl (fun _ => 0)), .inr (1, [.int (8 : Int32), .int (49 : Int32), .ref (1 + 44), .ref (1 + 45), .int 0]), .inl (0, 441, .inl (fun _ => 0)), .inl (0, 9, .inl (fun _ => 0)), .inr (3, [.int (1 : Int32), .ref (1 + 0), .ref (1 + 47), .ref (1 + 50), .int 0, .int 0, .int 0]), .inr (1, [.int (4 : Int32), .int (34 : Int32), .ref (1 + 48), .ref (1 + 49), .int 0]), .inl (0, 170, .inl (fun _ => 0)), .inl (0, 5, .inl (fun _ => 0)), .inl (0, 37, .inl (fun _ => 0)), .inr (4, [.ref (1 + 52), .ref (1 + 54), .ref (1 + 42), .int 0, .int 0]), .inr (5, [.ref (1 + 53), .int 0, .int 0, .int 0, .int 0, .int 0]), .inl (0, 48, .inl (fun _ => 0)), .inr (5, [.ref (1 + 55), .int 0, .int 0, .int 0, .int 0, .int 0]), .inl (0, 48, .inl (fun _ => 0)), .inr (6, [.ref (1 + 42), .int 0, .int 0, .int 0, .int 0, .int 0, .int 0]), .inr (7, [.int (1 : Int32), .int (1 : Int32), .ref (1 + 43), .ref (1 + 58), .ref (1 + 59), .ref (1 + 61), .int 0, .int 0, .int (4 : Int32), .int 0]), .inl (0, 49, .inl (fun _ => 0)), .inr (8, [.ref (1 + 60), .int 0, .int 0, .int 0, .int 0, .int 0, .int 0]), .inl (0, 64, .inl (fun _ => 0)), .inr (9, [.ref (1 + 62), .ref (1 + 63), .int 0, .int 0, .int (-1 : Int32)]), .inl (0, 24, .inl (fun _ => 0)), .inl (0, 32, .inl (fun i => if i < 32 then (-1 : Int32) else (fun _ => 0) i)), .inr (7, [.int (1 : Int32), .int (2 : Int32), .ref (1 + 43), .ref (1 + 65), .ref (1 + 66), .ref (1 + 68), .int 0, .int 0, .int (4 : Int32), .int 0]), .inl (0, 49, .inl (fun _ => 0)), .inr (8, [.ref (1 + 67), .int 0, .int 0, .int 0, .int 0, .int 0, .int 0]), .inl (0, 64, .inl (fun _ => 0)), .inr (9, [.ref (1 + 69), .ref (1 + 70), .int 0, .int 0, .int (-1 : Int32)]), .inl (0, 24, .inl (fun _ => 0)), .inl (0, 32, .inl (fun i => if i < 32 then (-1 : Int32) else (fun _ => 0) i)), .inl (0, 37, .inl (fun _ => 0)), .inl (0, 34, .inl (fun _ => 0)), .inl (0, 49, .inl (fun _ => 0))]
def v0_M : fw_E := (.inr (10, [.int 0, .ref (76 + 0), .ref (76 + 1), .ref (76 + 2), .ref (76 + 3), .ref (76 + 4), .ref (76 + 5), .ref (76 + 6), .ref (76 + 7), .ref (76 + 8), .ref (76 + 9), .ref (76 + 10), .ref (76 + 11), .ref (76 + 12), .ref (76 + 13), .ref (76 + 14), .ref (76 + 15), .ref (76 + 16), .ref (76 + 17), .ref (76 + 18), .ref (76 + 19), .ref (76 + 20), .ref (76 + 21), .ref (76 + 22), .ref (76 + 23), .ref (76 + 24), .ref (76 + 25), .ref (76 + 26), .ref (76 + 27), .ref (76 + 28), .ref (76 + 29), .ref (76 + 30), .ref (76 + 31), .ref (76 + 32), .ref (76 + 33), .ref (76 + 34), .ref (76 + 35), .ref (76 + 36), .ref (76 + 37), .int 0, .ref (76 + 38), .int 0, .ref (76 + 39), .int 0, .ref (76 + 40), .int 0, .int 0, .int 0, .int 0, .int 0]))
def v0_lM : List fw_E := [.inl (0, 2, .inl (fun _ => 0)), .inl (0, 32, .inl (fun _ => 0)), .inl (0, 1280, .inl (fun _ => 0)), .inl (0, 2, .inl (fun _ => 0)), .inl (0, 8, .inl (fun _ => 0)), .inl (0, 320, .inl (fun _ => 0)), .inl (0, 2, .inl (fun _ => 0)), .inl (0, 2, .inl (fun _ => 0)), .inl (0, 2, .inl (fun _ => 0)), .inl (0, 2, .inl (fun _ => 0)), .inl (0, 2, .inl (fun _ => 0)), .inl (0, 2, .inl (upd (upd (fun _ => 0) 0 (-1 : Int32)) 1 (-1 : Int32))), .inl (1, 4, .inl (fun _ => 0)), .inl (0, 4, .inl (fun _ => 0)), .inl (0, 4, .inl (fun _ => 0)), .inl (0, 4, .inl (fun _ => 0)), .inl (0, 4, .inl (fun _ => 0)), .inl (0, 192, .inl (fun _ => 0)), .inl (1, 192, .inl (fun _ => 0)), .inl (0, 4, .inl (fun _ => 0)), .inl (0, 4, .inl (fun _ => 0)), .inl (0, 4, .inl (fun _ => 0)), .inl (0, 4, .inl (fun _ => 0)), .inl (0, 4, .inl (fun _ => 0)), .inl (0, 4, .inl (fun _ => 0)), .inl (0, 4, .inl (fun _ => 0)), .inl (0, 256, .inl (fun _ => 0)), .inl (1, 4, .inl (fun _ => 0)), .inl (1, 4, .inl (fun _ => 0)), .inl (0, 4, .inl (fun _ => 0)), .inl (0, 128, .inl (fun _ => 0)), .inl (1, 128, .inl (fun _ => 0)), .inl (0, 128, .inl (fun _ => 0)), .inl (0, 4, .inl (upd (upd (upd (upd (fun _ => 0) 0 (-1 : Int32)) 1 (-1 : Int32)) 2 (-1 : Int32)) 3 (-1 : Int32))), .inl (0, 4, .inl (fun _ => 0)), .inl (0, 4, .inl (upd (upd (upd (upd (fun _ => 0) 0 (4 : Int32)) 1 (4 : Int32)) 2 (4 : Int32)) 3 (4 : Int32))), .inl (0, 4, .inl (fun _ => 0)), .inl (0, 40, .inl (fun _ => 0)), .inl (0, 64, .inl (fun _ => 0)), .inl (0, 64, .inl (fun _ => 0)), .inl (0, 40, .inl (fun _ => 0))]
def v0_h1 (x : fw_H) (y : fw_E) : fw_H := fw_up (fw_st x 0 v0_W 1 v0_lW) 75 y
theorem v0_q (a b : Nat) : va_up (va_up (fun _ => none) 0 (some a)) 1 (some b) = fun i => [a, b][i]? := by
  funext i
  match i with
  | 0 => rfl
  | 1 => rfl
  | n + 2 => rfl
set_option maxRecDepth 100000 in
theorem v0_at (x : fw_H) (y : fw_E) : ∀ k, k < 117 → fw_st (v0_h1 x y) 75 v0_M 76 v0_lM k = sv_h v0 k
  | 0, _ => rfl
  | 1, _ => rfl
  | 2, _ => rfl
  | 3, _ => rfl
  | 4, _ => rfl
  | 5, _ => rfl
  | 6, _ => rfl
  | 7, _ => congrArg (fun f => (.inl (2, 2, .inr (.inr (.inr (.inr f)))) : fw_E)) (v0_q 1 4)
  | 8, _ => congrArg (fun f => (.inl (3, 2, .inr (.inr (.inr (.inr f)))) : fw_E)) (v0_q 9 42)
  | 9, _ => rfl
  | 10, _ => rfl
  | 11, _ => rfl
  | 12, _ => rfl
  | 13, _ => rfl
  | 14, _ => rfl
  | 15, _ => rfl
  | 16, _ => rfl
  | 17, _ => rfl
  | 18, _ => rfl
  | 19, _ => rfl
  | 20, _ => rfl
  | 21, _ => rfl
  | 22, _ => rfl
  | 23, _ => rfl
  | 24, _ => rfl
  | 25, _ => rfl
  | 26, _ => rfl
  | 27, _ => rfl
  | 28, _ => rfl
  | 29, _ => rfl
  | 30, _ => rfl
  | 31, _ => rfl
  | 32, _ => rfl
  | 33, _ => rfl
  | 34, _ => rfl
  | 35, _ => rfl
  | 36, _ => rfl
  | 37, _ => rfl
  | 38, _ => rfl
  | 39, _ => rfl
  | 40, _ => rfl
  | 41, _ => rfl
  | 42, _ => rfl
  | 43, _ => rfl
  | 44, _ => rfl
  | 45, _ => rfl
  | 46, _ => rfl
  | 47, _ => rfl
  | 48, _ => rfl
  | 49, _ => rfl
  | 50, _ => rfl
  | 51, _ => rfl
  | 52, _ => rfl
  | 53, _ => rfl
  | 54, _ => rfl
  | 55, _ => rfl
  | 56, _ => rfl
  | 57, _ => rfl
  | 58, _ => rfl
  | 59, _ => rfl
  | 60, _ => rfl
  | 61, _ => rfl
  | 62, _ => rfl
  | 63, _ => rfl
  | 64, _ => rfl
  | 65, _ => rfl
  | 66, _ => rfl
  | 67, _ => rfl
  | 68, _ => rfl
  | 69, _ => rfl
  | 70, _ => rfl
  | 71, _ => rfl
  | 72, _ => rfl
  | 73, _ => rfl
  | 74, _ => rfl
  | 75, _ => rfl
  | 76, _ => rfl
  | 77, _ => rfl
  | 78, _ => rfl
  | 79, _ => rfl
  | 80, _ => rfl
  | 81, _ => rfl
  | 82, _ => rfl
  | 83, _ => rfl
  | 84, _ => rfl
  | 85, _ => rfl
  | 86, _ => rfl
  | 87, _ => rfl
  | 88, _ => rfl
  | 89, _ => rfl
  | 90, _ => rfl
  | 91, _ => rfl
  | 92, _ => rfl
  | 93, _ => rfl
  | 94, _ => rfl
  | 95, _ => rfl
  | 96, _ => rfl
  | 97, _ => rfl
  | 98, _ => rfl
  | 99, _ => rfl
  | 100, _ => rfl
  | 101, _ => rfl
  | 102, _ => rfl
  | 103, _ => rfl
  | 104, _ => rfl
  | 105, _ => rfl
  | 106, _ => rfl
  | 107, _ => rfl
  | 108, _ => rfl
  | 109, _ => rfl
  | 110, _ => rfl
  | 111, _ => rfl
  | 112, _ => rfl
  | 113, _ => rfl
  | 114, _ => rfl
  | 115, _ => rfl
  | 116, _ => rfl
  | k + 117, h => absurd h (by omega)
theorem v0_eq (x : fw_H) (y : fw_E) : fw_st (v0_h1 x y) 75 v0_M 76 v0_lM = sv_h v0 := by
  funext k
  by_cases hk : k < 117
  · exact v0_at x y k hk
  · have e1 : sg k = .inl (1000000, []) := by
      unfold sg
      rw [List.getD_eq_getElem?_getD, List.getElem?_eq_none (show sg_l.length ≤ k by show 117 ≤ k; omega)]
      rfl
    unfold sv_h
    rw [e1]
    unfold fw_st
    rw [if_neg (by omega), if_neg (by omega), List.getD_eq_getElem?_getD, List.getElem?_eq_none (show v0_lM.length ≤ k - 76 by show 41 ≤ k - 76; omega)]
    rfl
theorem tb_nl_in : ∀ w ∈ tb_nl, w ∈ lw_tbl := by
  intro w hw
  simp only [tb_nl, List.mem_cons, List.not_mem_nil, or_false] at hw
  rcases hw with rfl | rfl | rfl | rfl | rfl | rfl | rfl | rfl | rfl | rfl | rfl | rfl | rfl | rfl | rfl | rfl | rfl | rfl | rfl | rfl | rfl | rfl | rfl | rfl | rfl
  · exact List.mem_append_right _ (List.mem_append_left _ (List.mem_of_getElem? (i := 68) rfl))
  · exact List.mem_append_right _ (List.mem_append_left _ (List.mem_of_getElem? (i := 71) rfl))
  · exact List.mem_append_right _ (List.mem_append_left _ (List.mem_of_getElem? (i := 73) rfl))
  · exact List.mem_append_right _ (List.mem_append_left _ (List.mem_of_getElem? (i := 75) rfl))
  · exact List.mem_append_right _ (List.mem_append_left _ (List.mem_of_getElem? (i := 104) rfl))
  · exact List.mem_append_right _ (List.mem_append_left _ (List.mem_of_getElem? (i := 106) rfl))
  · exact List.mem_append_right _ (List.mem_append_left _ (List.mem_of_getElem? (i := 109) rfl))
  · exact List.mem_append_right _ (List.mem_append_left _ (List.mem_of_getElem? (i := 111) rfl))
  · exact List.mem_append_right _ (List.mem_append_left _ (List.mem_of_getElem? (i := 112) rfl))
  · exact List.mem_append_right _ (List.mem_append_left _ (List.mem_of_getElem? (i := 131) rfl))
  · exact List.mem_append_right _ (List.mem_append_left _ (List.mem_of_getElem? (i := 132) rfl))
  · exact List.mem_append_right _ (List.mem_append_left _ (List.mem_of_getElem? (i := 153) rfl))
  · exact List.mem_append_right _ (List.mem_append_left _ (List.mem_of_getElem? (i := 155) rfl))
  · exact List.mem_append_right _ (List.mem_append_left _ (List.mem_of_getElem? (i := 158) rfl))
  · exact List.mem_append_right _ (List.mem_append_left _ (List.mem_of_getElem? (i := 159) rfl))
  · exact List.mem_append_right _ (List.mem_append_left _ (List.mem_of_getElem? (i := 161) rfl))
  · exact List.mem_append_right _ (List.mem_append_left _ (List.mem_of_getElem? (i := 163) rfl))
  · exact List.mem_append_right _ (List.mem_append_left _ (List.mem_of_getElem? (i := 193) rfl))
  · exact List.mem_append_right _ (List.mem_append_left _ (List.mem_of_getElem? (i := 195) rfl))
  · exact List.mem_append_right _ (List.mem_append_left _ (List.mem_of_getElem? (i := 197) rfl))
  · exact List.mem_append_right _ (List.mem_append_left _ (List.mem_of_getElem? (i := 199) rfl))
  · exact List.mem_append_right _ (List.mem_append_left _ (List.mem_of_getElem? (i := 201) rfl))
  · exact List.mem_append_right _ (List.mem_append_left _ (List.mem_of_getElem? (i := 203) rfl))
  · exact List.mem_append_right _ (List.mem_append_left _ (List.mem_of_getElem? (i := 231) rfl))
  · exact List.mem_append_right _ (List.mem_append_left _ (List.mem_of_getElem? (i := 233) rfl))
theorem lw_nw {args : Array Value} {s : State} (h : ∀ w ∈ lw_tbl, w.before args s = true) : fw_nw s := by
  refine ⟨fun w hw => ?_, va_AO.of (h _ (List.mem_append_right _ (List.mem_append_left _ (List.mem_of_getElem? (i := 47) rfl)))), va_AO.of (h _ (List.mem_append_right _ (List.mem_append_left _ (List.mem_of_getElem? (i := 49) rfl))))⟩
  have h1 := h w (tb_nl_in w hw)
  obtain ⟨a, i, b, n, d, e, rfl⟩ := fw_nw_on hw
  exact va_Nw.of rfl h1
theorem lw_arrP {args : Array Value} {s : State} {ty : FieldType} (hp : refKind ty = false) (h : (Cond.arrayClass ty).before args s = true) : ∃ cA, ArrOfT s cA ty ∧ va_RA s cA ty := by
  obtain ⟨cA, kA, comp, h1, h2, h3⟩ := Cond.arrayClass_spec h
  refine ⟨cA, fun n z => ⟨fun k h => (by cases h), kA, h2, comp, h3⟩, ?_⟩
  cases ty <;> first | exact h1 | cases hp
theorem lw_arrQ {s : State} {C : String} (h : va_AO C s) : ∃ cA, ArrOfT s cA (.object C) ∧ va_RA s cA (.object C) := by
  obtain ⟨comp, cA, kA, h1, h2, h3, h4, h5⟩ := Cond.arrayOver_spec h
  exact ⟨cA, fun n z => ⟨fun k h => (by cases h), kA, h3, comp, h4⟩, kA, comp, h3, h4, h1, h5⟩
theorem lw_K {args : Array Value} {s : State} (hts : lw_ts args s) (hnw : fw_nw s) : ∃ (D : va_G) (tA : Nat → ClassId), va_K D tb_cl (fw_ty tA) s := by
  have hk : ∀ c : Nat, ∃ x : ClassId × (Nat → Nat), ∀ q, tb_cl[c]? = some q → u_Kn s q.1 q.2.1 q.2.2 x.1 x.2 := by
    intro c
    match c with
    | 0 => obtain ⟨cC, iS, h⟩ := u_known (n := 3) hts tu_0 (hts _ tw_17); exact ⟨(cC, iS), fun q hq => by cases hq; exact h⟩
    | 1 => obtain ⟨cC, iS, h⟩ := u_known (n := 5) hts tu_1 (hts _ tw_25); exact ⟨(cC, iS), fun q hq => by cases hq; exact h⟩
    | 2 => obtain ⟨cC, iS, h⟩ := u_known (n := 14) hts tu_2 (hts _ tw_50); exact ⟨(cC, iS), fun q hq => by cases hq; exact h⟩
    | 3 => obtain ⟨cC, iS, h⟩ := u_known (n := 7) hts tu_3 (hts _ tw_58); exact ⟨(cC, iS), fun q hq => by cases hq; exact h⟩
    | 4 => obtain ⟨cC, iS, h⟩ := u_known (n := 5) hts tu_4 (hts _ tw_92); exact ⟨(cC, iS), fun q hq => by cases hq; exact h⟩
    | 5 => obtain ⟨cC, iS, h⟩ := u_known (n := 6) hts tu_5 (hts _ tw_98); exact ⟨(cC, iS), fun q hq => by cases hq; exact h⟩
    | 6 => obtain ⟨cC, iS, h⟩ := u_known (n := 7) hts tu_6 (hts _ tw_146); exact ⟨(cC, iS), fun q hq => by cases hq; exact h⟩
    | 7 => obtain ⟨cC, iS, h⟩ := u_known (n := 10) hts tu_7 (hts _ tw_180); exact ⟨(cC, iS), fun q hq => by cases hq; exact h⟩
    | 8 => obtain ⟨cC, iS, h⟩ := u_known (n := 7) hts tu_8 (hts _ tw_186); exact ⟨(cC, iS), fun q hq => by cases hq; exact h⟩
    | 9 => obtain ⟨cC, iS, h⟩ := u_known (n := 5) hts tu_9 (hts _ tw_220); exact ⟨(cC, iS), fun q hq => by cases hq; exact h⟩
    | 10 => obtain ⟨cC, iS, h⟩ := u_known (n := 50) hts tu_10 (hts _ tw_831); exact ⟨(cC, iS), fun q hq => by cases hq; exact h⟩
    | n + 11 => exact ⟨(0, fun _ => 0), fun q hq => by cases hq⟩
  have ht : ∀ t : Nat, ∃ cA : ClassId, ∀ ty, tb_ty[t]? = some ty → ArrOfT s cA ty ∧ va_RA s cA ty := by
    intro t
    match t with
    | 0 => obtain ⟨cA, h⟩ := lw_arrP rfl (hts _ tw_46); exact ⟨cA, fun ty hq => by cases hq; exact h⟩
    | 1 => obtain ⟨cA, h⟩ := lw_arrP rfl (hts _ tw_987); exact ⟨cA, fun ty hq => by cases hq; exact h⟩
    | 2 => obtain ⟨cA, h⟩ := lw_arrQ hnw.2.1; exact ⟨cA, fun ty hq => by cases hq; exact h⟩
    | 3 => obtain ⟨cA, h⟩ := lw_arrQ hnw.2.2; exact ⟨cA, fun ty hq => by cases hq; exact h⟩
    | n + 4 => exact ⟨0, fun ty hq => by cases hq⟩
  obtain ⟨f, hf⟩ := Classical.axiomOfChoice hk
  obtain ⟨g, hg⟩ := Classical.axiomOfChoice ht
  refine ⟨(fun c => (f c).1, fun c => (f c).2), g, fun c q hq => hf c q hq, fun t q hq => ?_⟩
  unfold fw_ty at hq
  rw [List.getElem?_map] at hq
  cases hr : (List.range tb_ty.length)[t]? with
  | none => rw [hr] at hq; cases hq
  | some t' =>
    rw [hr] at hq
    have hl := (List.getElem?_eq_some_iff.mp hr)
    obtain ⟨hl1, hl2⟩ := hl
    rw [List.length_range] at hl1
    rw [List.getElem_range] at hl2
    subst hl2
    cases hq
    refine hg t _ ?_
    show tb_ty[t]? = some (tb_ty.getD t FieldType.int)
    rw [List.getD_eq_getElem?_getD, List.getElem?_eq_getElem hl1]
    rfl
set_option maxHeartbeats 4000000 in
set_option maxRecDepth 100000 in
theorem lw_begin {Inv : sv_T → Prop} (h0 : Inv v0) (hI : lw_step Inv) {p : Program} {e : Env} {s : State} {m : MethodId} {below : List Frame} {meth : Method} {c : Code} (l : Launch) {b L : Nat} {xs : Nat → Int32} (hL : L ≤ 2048) (C0 : lw_At p s m meth c b L xs) : W p l e room_1 s m #[Value.ref b] below meth c s.heap [] 0 0 (lw_Z below #[Value.ref b] s) (entryFrame m ([Value.ref b] : List Value).toArray 4) := by
  obtain ⟨hx, hb, hr, hml, hown, hts0, hX, hbl, hlocks, -⟩ := C0
  have hts : lw_ts #[Value.ref b] s := fun w hw => hts0 w (List.mem_filter.mp hw).1
  have hnw : fw_nw s := lw_nw hts0
  have C : lw_C p s m #[Value.ref b] meth c := ⟨hx, hb, hml, hown, hts, hnw⟩
  obtain ⟨D, tA, hK⟩ := lw_K hts hnw
  have S : lw_S s (fun q => s.heap.size ≤ q) b L xs := ⟨hX, hbl, Nat.not_le.mpr hbl⟩
  have I0 : fw_I D tA (fun q => s.heap.size ≤ q) s (fun _ => 0) 0 (fun _ => fw_no) s.heap [] := by
    have ew : fw_w tA (fun _ => 0) 0 (fun _ => fw_no) = [] := rfl
    refine ⟨⟨fun _ _ => rfl, fun _ v hv => by cases hv⟩, hK, ?_, ?_, va_S.rf, fun q h => h⟩
    · rw [ew]
      intro k q hq
      simp at hq
    · rw [ew]
      exact ⟨fun i j p q hp => by simp at hp, fun k q hq => by simp at hq⟩
  have hl := lv_entry ([.ref b]) (n := 4) (Nat.le_of_ble_eq_true rfl)
  rw [lg_entry_eq]
  generalize (lg_sl ([.ref b]) ++ List.replicate (4 - (lg_sl ([.ref b])).length) Slot.unset).toArray = cs at hl ⊢
  have hl : lv_has cs 4 [(0, .ref b)] := hl
  refine va_new (ci := 0) (fs := [.null, .null, .int 0]) (C := "WireHosts") (T := tT_0) (N := 3) hx hb hts tu_0 tY_0 ty_0 hown (hts _ tw_16) (hts _ tw_17) (hts _ tw_1) I0.2.1 I0.2.2.1 I0.2.2.2.1 I0.2.2.2.2.1 I0.2.2.2.2.2 rfl (fun i hi => match i, hi with | 0, _ => rfl | 1, _ => rfl | 2, _ => rfl | k + 3, h => absurd h (by omega)) (show 0 + 1 ≤ 600000 by omega) (show 0 + 3 ≤ 7302250 by omega) dl_0 (fun q1 H1 g1 g2 g3 => ?_)
  have I1 : fw_I D tA (fun q => s.heap.size ≤ q) s (va_up (fun _ => 0) 0 q1) 1 (fw_up (fun _ => fw_no) 0 (.inr (0, [.null, .null, .int 0]))) H1 [] := I0.new (c := .inr (0, [.null, .null, .int 0])) (fun v hv => fw_ok_up (Nat.zero_le _) (kn_ok_of (fs := [.null, .null, .int 0]) rfl v hv)) rfl g1 g2 g3
  refine lv_dup hx hb dl_3 rfl ?_
  refine lw_callI (d := 4) (j' := 0) (nA := 0) (o := 0) (as := []) (st := [.ref 0]) (stk := [.ref 0, .ref 0]) (ad := va_up (fun _ => 0) 0 q1) C I1 hl.1 fc_0 tw_18 tw_19 rfl rfl rfl (Nat.le_of_ble_eq_true rfl) rfl (fun v hv => by
    rcases List.mem_cons.mp hv with e | e
    · rw [e]; exact fw_ok_ref (Nat.lt_succ_self 0)
    · rw [List.mem_singleton.mp e]; exact fw_ok_ref (Nat.lt_succ_self 0)) dl_4 (by decide) (Nat.le_of_ble_eq_true rfl) (show 0 + 1 + 74 ≤ 600000 by omega) (show 0 + 3 + 4032 ≤ 7302250 by omega) (k_W 0 1 0 _ rfl (Nat.lt_succ_self 0)) (fun r n' h' ad2 H2 locs2 e1 e2 e3 e4 I2 => ?_)
  obtain ⟨rfl, rfl, rfl⟩ := e1
  refine lv_astore_n (i := 1) hx hb dl_7 rfl hl (by decide) rfl (fun cs1 hl1 => ?_)
  refine va_new (ci := 10) (fs := [.int 0, .null, .null, .null, .null, .null, .null, .null, .null, .null, .null, .null, .null, .null, .null, .null, .null, .null, .null, .null, .null, .null, .null, .null, .null, .null, .null, .null, .null, .null, .null, .null, .null, .null, .null, .null, .null, .null, .null, .int 0, .null, .int 0, .null, .int 0, .null, .int 0, .int 0, .int 0, .int 0, .int 0]) (C := "WireHostsModel") (T := tT_10) (N := 50) hx hb hts tu_10 tY_10 ty_10 hown (hts _ tw_830) (hts _ tw_831) (hts _ tw_12) I2.2.1 I2.2.2.1 I2.2.2.2.1 I2.2.2.2.2.1 I2.2.2.2.2.2 rfl (fun i hi => match i, hi with | 0, _ => rfl | 1, _ => rfl | 2, _ => rfl | 3, _ => rfl | 4, _ => rfl | 5, _ => rfl | 6, _ => rfl | 7, _ => rfl | 8, _ => rfl | 9, _ => rfl | 10, _ => rfl | 11, _ => rfl | 12, _ => rfl | 13, _ => rfl | 14, _ => rfl | 15, _ => rfl | 16, _ => rfl | 17, _ => rfl | 18, _ => rfl | 19, _ => rfl | 20, _ => rfl | 21, _ => rfl | 22, _ => rfl | 23, _ => rfl | 24, _ => rfl | 25, _ => rfl | 26, _ => rfl | 27, _ => rfl | 28, _ => rfl | 29, _ => rfl | 30, _ => rfl | 31, _ => rfl | 32, _ => rfl | 33, _ => rfl | 34, _ => rfl | 35, _ => rfl | 36, _ => rfl | 37, _ => rfl | 38, _ => rfl | 39, _ => rfl | 40, _ => rfl | 41, _ => rfl | 42, _ => rfl | 43, _ => rfl | 44, _ => rfl | 45, _ => rfl | 46, _ => rfl | 47, _ => rfl | 48, _ => rfl | 49, _ => rfl | k + 50, h => absurd h (by omega)) (show 0 + 1 + 74 + 1 ≤ 600000 by omega) (show 0 + 3 + 4032 + 50 ≤ 7302250 by omega) dl_8 (fun q3 H3 g4 g5 g6 => ?_)
  have I3 := I2.new (c := .inr (10, [.int 0, .null, .null, .null, .null, .null, .null, .null, .null, .null, .null, .null, .null, .null, .null, .null, .null, .null, .null, .null, .null, .null, .null, .null, .null, .null, .null, .null, .null, .null, .null, .null, .null, .null, .null, .null, .null, .null, .null, .int 0, .null, .int 0, .null, .int 0, .null, .int 0, .int 0, .int 0, .int 0, .int 0])) (fun v hv => fw_ok_up (Nat.zero_le _) (kn_ok_of (fs := [.int 0, .null, .null, .null, .null, .null, .null, .null, .null, .null, .null, .null, .null, .null, .null, .null, .null, .null, .null, .null, .null, .null, .null, .null, .null, .null, .null, .null, .null, .null, .null, .null, .null, .null, .null, .null, .null, .null, .null, .int 0, .null, .int 0, .null, .int 0, .null, .int 0, .int 0, .int 0, .int 0, .int 0]) rfl v hv)) rfl g4 g5 g6
  have I3 : fw_I D tA (fun q => s.heap.size ≤ q) s (va_up ad2 75 q3) 76 (v0_h1 (fw_up (fun _ => fw_no) 0 (.inr (0, [.null, .null, .int 0]))) (.inr (10, [.int 0, .null, .null, .null, .null, .null, .null, .null, .null, .null, .null, .null, .null, .null, .null, .null, .null, .null, .null, .null, .null, .null, .null, .null, .null, .null, .null, .null, .null, .null, .null, .null, .null, .null, .null, .null, .null, .null, .null, .int 0, .null, .int 0, .null, .int 0, .null, .int 0, .int 0, .int 0, .int 0, .int 0]))) H3 locs2 := I3
  have e3 : ∀ k, k < 1 → ad2 k = va_up (fun _ => 0) 0 q1 k := e3
  have ea : va_up ad2 75 q3 75 = q3 := if_pos rfl
  refine lv_dup hx hb dl_11 rfl ?_
  have k2 := lw_callI (p := p) (l := l) (e := e) (below := below) (H := H3) (locs := locs2) (cells := 0 + 1 + 74 + 1) (slots := 0 + 3 + 4032 + 50) (Q := lw_Z below #[Value.ref b] s) (cs := cs1) (pc := 12) (d := 1) (j' := 130) (nA := 0) (o := 75) (as := []) (st := [.ref 75]) (stk := [.ref 75, .ref 75]) (ad := va_up ad2 75 q3) C I3 hl1.1 fc_130 tw_832 tw_833 rfl rfl rfl (Nat.le_of_ble_eq_true rfl) rfl (fun v hv => by
    rcases List.mem_cons.mp hv with e | e
    · rw [e]; exact fw_ok_ref (by decide)
    · rw [List.mem_singleton.mp e]; exact fw_ok_ref (by decide)) dl_12 (by decide) (Nat.le_of_ble_eq_true rfl) (show 0 + 1 + 74 + 1 + 41 ≤ 600000 by omega) (show 0 + 3 + 4032 + 50 + 2964 ≤ 7302250 by omega) (k_M 0 76 75 _ (fw_up_s _ _ _) (by decide)) (fun r n' h' ad4 H4 locs4 e1 e2 e5 e4 I4 => ?_)
  · have k2 : W p l e room_1 s m #[Value.ref b] below meth c H3 locs2 (0 + 1 + 74 + 1) (0 + 3 + 4032 + 50) (lw_Z below #[Value.ref b] s) (F0 m 12 cs1 [.ref (va_up ad2 75 q3 75), .ref (va_up ad2 75 q3 75)]) := k2
    rw [ea] at k2
    exact k2
  · obtain ⟨rfl, rfl, rfl⟩ := e1
    have I4 : fw_I D tA (fun q => s.heap.size ≤ q) s ad4 sv_n (fw_st (v0_h1 (fw_up (fun _ => fw_no) 0 (.inr (0, [.null, .null, .int 0]))) (.inr (10, [.int 0, .null, .null, .null, .null, .null, .null, .null, .null, .null, .null, .null, .null, .null, .null, .null, .null, .null, .null, .null, .null, .null, .null, .null, .null, .null, .null, .null, .null, .null, .null, .null, .null, .null, .null, .null, .null, .null, .null, .int 0, .null, .int 0, .null, .int 0, .null, .int 0, .int 0, .int 0, .int 0, .int 0]))) 75 v0_M 76 v0_lM) H4 locs4 := I4
    rw [v0_eq] at I4
    have a0 : ad4 0 = q1 := by
      rw [e5 0 (by decide)]
      show va_up ad2 75 q3 0 = q1
      have : va_up ad2 75 q3 0 = ad2 0 := if_neg (by decide)
      rw [this, e3 0 (by decide)]
      rfl
    have a75 : ad4 75 = q3 := by
      rw [e5 75 (by decide)]
      exact ea
    show W p l e room_1 s m #[Value.ref b] below meth c H4 locs4 (0 + 1 + 74 + 1 + 41) (0 + 3 + 4032 + 50 + 2964) (lw_Z below #[Value.ref b] s) (F0 m 15 cs1 [.ref (va_up ad2 75 q3 75)])
    refine lv_astore_n (i := 2) hx hb dl_15 rfl hl1 (by decide) rfl (fun cs2 hl2 => ?_)
    refine lv_iconst (v := 0) hx hb dl_16 (by decide) ?_
    refine lv_istore_n (i := 3) hx hb dl_17 rfl hl2 (by decide) rfl (fun cs3 hl3 => ?_)
    refine lg_loop hI hL C S hr hlocks (by omega) (by omega) L 0 v0 (by omega) (by omega) h0 H4 locs4 cs3 I4 ⟨hl3.1, hl3.2.1, fun q hq => hl3.2.2 q ?_⟩
    rw [a0, a75] at hq
    simp only [List.mem_cons, List.not_mem_nil, or_false] at hq
    have eb : va_up (fun _ => 0) 0 q1 0 = q1 := if_pos rfl
    rcases hq with rfl | rfl | rfl | rfl <;> simp [Value.category, ea, eb, nI_0]
