/-! PURE: the small methods of the reference, on its row -/
theorem oSp0 {s : Nat} (hs : s < 4) (x : MM) : D_X10_ofSpindle (I s) (0 : Int32) x = some (rw1 x (58 + 8 * s)) := by
  unfold D_X10_ofSpindle
  have e : ((58 : Int32) + ((8 : Int32) * I s)) + (0 : Int32) = I (58 + 8 * s) := by
    rw [show (58 : Int32) = I 58 from rfl, show (8 : Int32) = I 8 from rfl, show (0 : Int32) = I 0 from rfl, I_mul, I_add, I_add]
    rfl
  rw [e, gd_ok (ok_I (by omega) (by omega)), I_tnc (by omega)]
  rfl
theorem poSp0 {s : Nat} (hs : s < 4) (v : Int32) (x : MM) : D_X10_putSpindle (I s) (0 : Int32) v x = some (pw x (upd (rw1 x) (58 + 8 * s) v)) := by
  unfold D_X10_putSpindle
  have e : ((58 : Int32) + ((8 : Int32) * I s)) + (0 : Int32) = I (58 + 8 * s) := by
    rw [show (58 : Int32) = I 58 from rfl, show (8 : Int32) = I 8 from rfl, show (0 : Int32) = I 0 from rfl, I_mul, I_add, I_add]
    rfl
  rw [e, gd_ok (ok_I (by omega) (by omega)), I_tnc (by omega)]
  rfl
theorem oSp1 {s : Nat} (hs : s < 4) (x : MM) : D_X10_ofSpindle (I s) (1 : Int32) x = some (rw1 x (58 + 8 * s + 1)) := by
  unfold D_X10_ofSpindle
  have e : ((58 : Int32) + ((8 : Int32) * I s)) + (1 : Int32) = I (58 + 8 * s + 1) := by
    rw [show (58 : Int32) = I 58 from rfl, show (8 : Int32) = I 8 from rfl, show (1 : Int32) = I 1 from rfl, I_mul, I_add, I_add]
  rw [e, gd_ok (ok_I (by omega) (by omega)), I_tnc (by omega)]
  rfl
theorem poSp1 {s : Nat} (hs : s < 4) (v : Int32) (x : MM) : D_X10_putSpindle (I s) (1 : Int32) v x = some (pw x (upd (rw1 x) (58 + 8 * s + 1) v)) := by
  unfold D_X10_putSpindle
  have e : ((58 : Int32) + ((8 : Int32) * I s)) + (1 : Int32) = I (58 + 8 * s + 1) := by
    rw [show (58 : Int32) = I 58 from rfl, show (8 : Int32) = I 8 from rfl, show (1 : Int32) = I 1 from rfl, I_mul, I_add, I_add]
  rw [e, gd_ok (ok_I (by omega) (by omega)), I_tnc (by omega)]
  rfl
theorem oSp2 {s : Nat} (hs : s < 4) (x : MM) : D_X10_ofSpindle (I s) (2 : Int32) x = some (rw1 x (58 + 8 * s + 2)) := by
  unfold D_X10_ofSpindle
  have e : ((58 : Int32) + ((8 : Int32) * I s)) + (2 : Int32) = I (58 + 8 * s + 2) := by
    rw [show (58 : Int32) = I 58 from rfl, show (8 : Int32) = I 8 from rfl, show (2 : Int32) = I 2 from rfl, I_mul, I_add, I_add]
  rw [e, gd_ok (ok_I (by omega) (by omega)), I_tnc (by omega)]
  rfl
theorem poSp2 {s : Nat} (hs : s < 4) (v : Int32) (x : MM) : D_X10_putSpindle (I s) (2 : Int32) v x = some (pw x (upd (rw1 x) (58 + 8 * s + 2) v)) := by
  unfold D_X10_putSpindle
  have e : ((58 : Int32) + ((8 : Int32) * I s)) + (2 : Int32) = I (58 + 8 * s + 2) := by
    rw [show (58 : Int32) = I 58 from rfl, show (8 : Int32) = I 8 from rfl, show (2 : Int32) = I 2 from rfl, I_mul, I_add, I_add]
  rw [e, gd_ok (ok_I (by omega) (by omega)), I_tnc (by omega)]
  rfl
theorem oSp3 {s : Nat} (hs : s < 4) (x : MM) : D_X10_ofSpindle (I s) (3 : Int32) x = some (rw1 x (58 + 8 * s + 3)) := by
  unfold D_X10_ofSpindle
  have e : ((58 : Int32) + ((8 : Int32) * I s)) + (3 : Int32) = I (58 + 8 * s + 3) := by
    rw [show (58 : Int32) = I 58 from rfl, show (8 : Int32) = I 8 from rfl, show (3 : Int32) = I 3 from rfl, I_mul, I_add, I_add]
  rw [e, gd_ok (ok_I (by omega) (by omega)), I_tnc (by omega)]
  rfl
theorem poSp3 {s : Nat} (hs : s < 4) (v : Int32) (x : MM) : D_X10_putSpindle (I s) (3 : Int32) v x = some (pw x (upd (rw1 x) (58 + 8 * s + 3) v)) := by
  unfold D_X10_putSpindle
  have e : ((58 : Int32) + ((8 : Int32) * I s)) + (3 : Int32) = I (58 + 8 * s + 3) := by
    rw [show (58 : Int32) = I 58 from rfl, show (8 : Int32) = I 8 from rfl, show (3 : Int32) = I 3 from rfl, I_mul, I_add, I_add]
  rw [e, gd_ok (ok_I (by omega) (by omega)), I_tnc (by omega)]
  rfl
theorem oSp4 {s : Nat} (hs : s < 4) (x : MM) : D_X10_ofSpindle (I s) (4 : Int32) x = some (rw1 x (58 + 8 * s + 4)) := by
  unfold D_X10_ofSpindle
  have e : ((58 : Int32) + ((8 : Int32) * I s)) + (4 : Int32) = I (58 + 8 * s + 4) := by
    rw [show (58 : Int32) = I 58 from rfl, show (8 : Int32) = I 8 from rfl, show (4 : Int32) = I 4 from rfl, I_mul, I_add, I_add]
  rw [e, gd_ok (ok_I (by omega) (by omega)), I_tnc (by omega)]
  rfl
theorem poSp4 {s : Nat} (hs : s < 4) (v : Int32) (x : MM) : D_X10_putSpindle (I s) (4 : Int32) v x = some (pw x (upd (rw1 x) (58 + 8 * s + 4) v)) := by
  unfold D_X10_putSpindle
  have e : ((58 : Int32) + ((8 : Int32) * I s)) + (4 : Int32) = I (58 + 8 * s + 4) := by
    rw [show (58 : Int32) = I 58 from rfl, show (8 : Int32) = I 8 from rfl, show (4 : Int32) = I 4 from rfl, I_mul, I_add, I_add]
  rw [e, gd_ok (ok_I (by omega) (by omega)), I_tnc (by omega)]
  rfl
theorem oSp5 {s : Nat} (hs : s < 4) (x : MM) : D_X10_ofSpindle (I s) (5 : Int32) x = some (rw1 x (58 + 8 * s + 5)) := by
  unfold D_X10_ofSpindle
  have e : ((58 : Int32) + ((8 : Int32) * I s)) + (5 : Int32) = I (58 + 8 * s + 5) := by
    rw [show (58 : Int32) = I 58 from rfl, show (8 : Int32) = I 8 from rfl, show (5 : Int32) = I 5 from rfl, I_mul, I_add, I_add]
  rw [e, gd_ok (ok_I (by omega) (by omega)), I_tnc (by omega)]
  rfl
theorem poSp5 {s : Nat} (hs : s < 4) (v : Int32) (x : MM) : D_X10_putSpindle (I s) (5 : Int32) v x = some (pw x (upd (rw1 x) (58 + 8 * s + 5) v)) := by
  unfold D_X10_putSpindle
  have e : ((58 : Int32) + ((8 : Int32) * I s)) + (5 : Int32) = I (58 + 8 * s + 5) := by
    rw [show (58 : Int32) = I 58 from rfl, show (8 : Int32) = I 8 from rfl, show (5 : Int32) = I 5 from rfl, I_mul, I_add, I_add]
  rw [e, gd_ok (ok_I (by omega) (by omega)), I_tnc (by omega)]
  rfl
theorem oSp6 {s : Nat} (hs : s < 4) (x : MM) : D_X10_ofSpindle (I s) (6 : Int32) x = some (rw1 x (58 + 8 * s + 6)) := by
  unfold D_X10_ofSpindle
  have e : ((58 : Int32) + ((8 : Int32) * I s)) + (6 : Int32) = I (58 + 8 * s + 6) := by
    rw [show (58 : Int32) = I 58 from rfl, show (8 : Int32) = I 8 from rfl, show (6 : Int32) = I 6 from rfl, I_mul, I_add, I_add]
  rw [e, gd_ok (ok_I (by omega) (by omega)), I_tnc (by omega)]
  rfl
theorem poSp6 {s : Nat} (hs : s < 4) (v : Int32) (x : MM) : D_X10_putSpindle (I s) (6 : Int32) v x = some (pw x (upd (rw1 x) (58 + 8 * s + 6) v)) := by
  unfold D_X10_putSpindle
  have e : ((58 : Int32) + ((8 : Int32) * I s)) + (6 : Int32) = I (58 + 8 * s + 6) := by
    rw [show (58 : Int32) = I 58 from rfl, show (8 : Int32) = I 8 from rfl, show (6 : Int32) = I 6 from rfl, I_mul, I_add, I_add]
  rw [e, gd_ok (ok_I (by omega) (by omega)), I_tnc (by omega)]
  rfl
theorem oSp7 {s : Nat} (hs : s < 4) (x : MM) : D_X10_ofSpindle (I s) (7 : Int32) x = some (rw1 x (58 + 8 * s + 7)) := by
  unfold D_X10_ofSpindle
  have e : ((58 : Int32) + ((8 : Int32) * I s)) + (7 : Int32) = I (58 + 8 * s + 7) := by
    rw [show (58 : Int32) = I 58 from rfl, show (8 : Int32) = I 8 from rfl, show (7 : Int32) = I 7 from rfl, I_mul, I_add, I_add]
  rw [e, gd_ok (ok_I (by omega) (by omega)), I_tnc (by omega)]
  rfl
theorem poSp7 {s : Nat} (hs : s < 4) (v : Int32) (x : MM) : D_X10_putSpindle (I s) (7 : Int32) v x = some (pw x (upd (rw1 x) (58 + 8 * s + 7) v)) := by
  unfold D_X10_putSpindle
  have e : ((58 : Int32) + ((8 : Int32) * I s)) + (7 : Int32) = I (58 + 8 * s + 7) := by
    rw [show (58 : Int32) = I 58 from rfl, show (8 : Int32) = I 8 from rfl, show (7 : Int32) = I 7 from rfl, I_mul, I_add, I_add]
  rw [e, gd_ok (ok_I (by omega) (by omega)), I_tnc (by omega)]
  rfl
theorem oFd0 {s : Nat} (hs : s < 10) (x : MM) : D_X10_ofFeeder (I s) (0 : Int32) x = some (rw1 x (130 + 11 * s)) := by
  unfold D_X10_ofFeeder
  have e : ((130 : Int32) + ((11 : Int32) * I s)) + (0 : Int32) = I (130 + 11 * s) := by
    rw [show (130 : Int32) = I 130 from rfl, show (11 : Int32) = I 11 from rfl, show (0 : Int32) = I 0 from rfl, I_mul, I_add, I_add]
    rfl
  rw [e, gd_ok (ok_I (by omega) (by omega)), I_tnc (by omega)]
  rfl
theorem poFd0 {s : Nat} (hs : s < 10) (v : Int32) (x : MM) : D_X10_putFeeder (I s) (0 : Int32) v x = some (pw x (upd (rw1 x) (130 + 11 * s) v)) := by
  unfold D_X10_putFeeder
  have e : ((130 : Int32) + ((11 : Int32) * I s)) + (0 : Int32) = I (130 + 11 * s) := by
    rw [show (130 : Int32) = I 130 from rfl, show (11 : Int32) = I 11 from rfl, show (0 : Int32) = I 0 from rfl, I_mul, I_add, I_add]
    rfl
  rw [e, gd_ok (ok_I (by omega) (by omega)), I_tnc (by omega)]
  rfl
theorem oFd1 {s : Nat} (hs : s < 10) (x : MM) : D_X10_ofFeeder (I s) (1 : Int32) x = some (rw1 x (130 + 11 * s + 1)) := by
  unfold D_X10_ofFeeder
  have e : ((130 : Int32) + ((11 : Int32) * I s)) + (1 : Int32) = I (130 + 11 * s + 1) := by
    rw [show (130 : Int32) = I 130 from rfl, show (11 : Int32) = I 11 from rfl, show (1 : Int32) = I 1 from rfl, I_mul, I_add, I_add]
  rw [e, gd_ok (ok_I (by omega) (by omega)), I_tnc (by omega)]
  rfl
theorem poFd1 {s : Nat} (hs : s < 10) (v : Int32) (x : MM) : D_X10_putFeeder (I s) (1 : Int32) v x = some (pw x (upd (rw1 x) (130 + 11 * s + 1) v)) := by
  unfold D_X10_putFeeder
  have e : ((130 : Int32) + ((11 : Int32) * I s)) + (1 : Int32) = I (130 + 11 * s + 1) := by
    rw [show (130 : Int32) = I 130 from rfl, show (11 : Int32) = I 11 from rfl, show (1 : Int32) = I 1 from rfl, I_mul, I_add, I_add]
  rw [e, gd_ok (ok_I (by omega) (by omega)), I_tnc (by omega)]
  rfl
theorem oFd2 {s : Nat} (hs : s < 10) (x : MM) : D_X10_ofFeeder (I s) (2 : Int32) x = some (rw1 x (130 + 11 * s + 2)) := by
  unfold D_X10_ofFeeder
  have e : ((130 : Int32) + ((11 : Int32) * I s)) + (2 : Int32) = I (130 + 11 * s + 2) := by
    rw [show (130 : Int32) = I 130 from rfl, show (11 : Int32) = I 11 from rfl, show (2 : Int32) = I 2 from rfl, I_mul, I_add, I_add]
  rw [e, gd_ok (ok_I (by omega) (by omega)), I_tnc (by omega)]
  rfl
theorem poFd2 {s : Nat} (hs : s < 10) (v : Int32) (x : MM) : D_X10_putFeeder (I s) (2 : Int32) v x = some (pw x (upd (rw1 x) (130 + 11 * s + 2) v)) := by
  unfold D_X10_putFeeder
  have e : ((130 : Int32) + ((11 : Int32) * I s)) + (2 : Int32) = I (130 + 11 * s + 2) := by
    rw [show (130 : Int32) = I 130 from rfl, show (11 : Int32) = I 11 from rfl, show (2 : Int32) = I 2 from rfl, I_mul, I_add, I_add]
  rw [e, gd_ok (ok_I (by omega) (by omega)), I_tnc (by omega)]
  rfl
theorem oFd3 {s : Nat} (hs : s < 10) (x : MM) : D_X10_ofFeeder (I s) (3 : Int32) x = some (rw1 x (130 + 11 * s + 3)) := by
  unfold D_X10_ofFeeder
  have e : ((130 : Int32) + ((11 : Int32) * I s)) + (3 : Int32) = I (130 + 11 * s + 3) := by
    rw [show (130 : Int32) = I 130 from rfl, show (11 : Int32) = I 11 from rfl, show (3 : Int32) = I 3 from rfl, I_mul, I_add, I_add]
  rw [e, gd_ok (ok_I (by omega) (by omega)), I_tnc (by omega)]
  rfl
theorem poFd3 {s : Nat} (hs : s < 10) (v : Int32) (x : MM) : D_X10_putFeeder (I s) (3 : Int32) v x = some (pw x (upd (rw1 x) (130 + 11 * s + 3) v)) := by
  unfold D_X10_putFeeder
  have e : ((130 : Int32) + ((11 : Int32) * I s)) + (3 : Int32) = I (130 + 11 * s + 3) := by
    rw [show (130 : Int32) = I 130 from rfl, show (11 : Int32) = I 11 from rfl, show (3 : Int32) = I 3 from rfl, I_mul, I_add, I_add]
  rw [e, gd_ok (ok_I (by omega) (by omega)), I_tnc (by omega)]
  rfl
theorem oFd4 {s : Nat} (hs : s < 10) (x : MM) : D_X10_ofFeeder (I s) (4 : Int32) x = some (rw1 x (130 + 11 * s + 4)) := by
  unfold D_X10_ofFeeder
  have e : ((130 : Int32) + ((11 : Int32) * I s)) + (4 : Int32) = I (130 + 11 * s + 4) := by
    rw [show (130 : Int32) = I 130 from rfl, show (11 : Int32) = I 11 from rfl, show (4 : Int32) = I 4 from rfl, I_mul, I_add, I_add]
  rw [e, gd_ok (ok_I (by omega) (by omega)), I_tnc (by omega)]
  rfl
theorem poFd4 {s : Nat} (hs : s < 10) (v : Int32) (x : MM) : D_X10_putFeeder (I s) (4 : Int32) v x = some (pw x (upd (rw1 x) (130 + 11 * s + 4) v)) := by
  unfold D_X10_putFeeder
  have e : ((130 : Int32) + ((11 : Int32) * I s)) + (4 : Int32) = I (130 + 11 * s + 4) := by
    rw [show (130 : Int32) = I 130 from rfl, show (11 : Int32) = I 11 from rfl, show (4 : Int32) = I 4 from rfl, I_mul, I_add, I_add]
  rw [e, gd_ok (ok_I (by omega) (by omega)), I_tnc (by omega)]
  rfl
theorem oFd5 {s : Nat} (hs : s < 10) (x : MM) : D_X10_ofFeeder (I s) (5 : Int32) x = some (rw1 x (130 + 11 * s + 5)) := by
  unfold D_X10_ofFeeder
  have e : ((130 : Int32) + ((11 : Int32) * I s)) + (5 : Int32) = I (130 + 11 * s + 5) := by
    rw [show (130 : Int32) = I 130 from rfl, show (11 : Int32) = I 11 from rfl, show (5 : Int32) = I 5 from rfl, I_mul, I_add, I_add]
  rw [e, gd_ok (ok_I (by omega) (by omega)), I_tnc (by omega)]
  rfl
theorem poFd5 {s : Nat} (hs : s < 10) (v : Int32) (x : MM) : D_X10_putFeeder (I s) (5 : Int32) v x = some (pw x (upd (rw1 x) (130 + 11 * s + 5) v)) := by
  unfold D_X10_putFeeder
  have e : ((130 : Int32) + ((11 : Int32) * I s)) + (5 : Int32) = I (130 + 11 * s + 5) := by
    rw [show (130 : Int32) = I 130 from rfl, show (11 : Int32) = I 11 from rfl, show (5 : Int32) = I 5 from rfl, I_mul, I_add, I_add]
  rw [e, gd_ok (ok_I (by omega) (by omega)), I_tnc (by omega)]
  rfl
theorem oFd6 {s : Nat} (hs : s < 10) (x : MM) : D_X10_ofFeeder (I s) (6 : Int32) x = some (rw1 x (130 + 11 * s + 6)) := by
  unfold D_X10_ofFeeder
  have e : ((130 : Int32) + ((11 : Int32) * I s)) + (6 : Int32) = I (130 + 11 * s + 6) := by
    rw [show (130 : Int32) = I 130 from rfl, show (11 : Int32) = I 11 from rfl, show (6 : Int32) = I 6 from rfl, I_mul, I_add, I_add]
  rw [e, gd_ok (ok_I (by omega) (by omega)), I_tnc (by omega)]
  rfl
theorem poFd6 {s : Nat} (hs : s < 10) (v : Int32) (x : MM) : D_X10_putFeeder (I s) (6 : Int32) v x = some (pw x (upd (rw1 x) (130 + 11 * s + 6) v)) := by
  unfold D_X10_putFeeder
  have e : ((130 : Int32) + ((11 : Int32) * I s)) + (6 : Int32) = I (130 + 11 * s + 6) := by
    rw [show (130 : Int32) = I 130 from rfl, show (11 : Int32) = I 11 from rfl, show (6 : Int32) = I 6 from rfl, I_mul, I_add, I_add]
  rw [e, gd_ok (ok_I (by omega) (by omega)), I_tnc (by omega)]
  rfl
theorem oFd7 {s : Nat} (hs : s < 10) (x : MM) : D_X10_ofFeeder (I s) (7 : Int32) x = some (rw1 x (130 + 11 * s + 7)) := by
  unfold D_X10_ofFeeder
  have e : ((130 : Int32) + ((11 : Int32) * I s)) + (7 : Int32) = I (130 + 11 * s + 7) := by
    rw [show (130 : Int32) = I 130 from rfl, show (11 : Int32) = I 11 from rfl, show (7 : Int32) = I 7 from rfl, I_mul, I_add, I_add]
  rw [e, gd_ok (ok_I (by omega) (by omega)), I_tnc (by omega)]
  rfl
theorem poFd7 {s : Nat} (hs : s < 10) (v : Int32) (x : MM) : D_X10_putFeeder (I s) (7 : Int32) v x = some (pw x (upd (rw1 x) (130 + 11 * s + 7) v)) := by
  unfold D_X10_putFeeder
  have e : ((130 : Int32) + ((11 : Int32) * I s)) + (7 : Int32) = I (130 + 11 * s + 7) := by
    rw [show (130 : Int32) = I 130 from rfl, show (11 : Int32) = I 11 from rfl, show (7 : Int32) = I 7 from rfl, I_mul, I_add, I_add]
  rw [e, gd_ok (ok_I (by omega) (by omega)), I_tnc (by omega)]
  rfl
theorem oFd8 {s : Nat} (hs : s < 10) (x : MM) : D_X10_ofFeeder (I s) (8 : Int32) x = some (rw1 x (130 + 11 * s + 8)) := by
  unfold D_X10_ofFeeder
  have e : ((130 : Int32) + ((11 : Int32) * I s)) + (8 : Int32) = I (130 + 11 * s + 8) := by
    rw [show (130 : Int32) = I 130 from rfl, show (11 : Int32) = I 11 from rfl, show (8 : Int32) = I 8 from rfl, I_mul, I_add, I_add]
  rw [e, gd_ok (ok_I (by omega) (by omega)), I_tnc (by omega)]
  rfl
theorem poFd8 {s : Nat} (hs : s < 10) (v : Int32) (x : MM) : D_X10_putFeeder (I s) (8 : Int32) v x = some (pw x (upd (rw1 x) (130 + 11 * s + 8) v)) := by
  unfold D_X10_putFeeder
  have e : ((130 : Int32) + ((11 : Int32) * I s)) + (8 : Int32) = I (130 + 11 * s + 8) := by
    rw [show (130 : Int32) = I 130 from rfl, show (11 : Int32) = I 11 from rfl, show (8 : Int32) = I 8 from rfl, I_mul, I_add, I_add]
  rw [e, gd_ok (ok_I (by omega) (by omega)), I_tnc (by omega)]
  rfl
theorem oFd9 {s : Nat} (hs : s < 10) (x : MM) : D_X10_ofFeeder (I s) (9 : Int32) x = some (rw1 x (130 + 11 * s + 9)) := by
  unfold D_X10_ofFeeder
  have e : ((130 : Int32) + ((11 : Int32) * I s)) + (9 : Int32) = I (130 + 11 * s + 9) := by
    rw [show (130 : Int32) = I 130 from rfl, show (11 : Int32) = I 11 from rfl, show (9 : Int32) = I 9 from rfl, I_mul, I_add, I_add]
  rw [e, gd_ok (ok_I (by omega) (by omega)), I_tnc (by omega)]
  rfl
theorem poFd9 {s : Nat} (hs : s < 10) (v : Int32) (x : MM) : D_X10_putFeeder (I s) (9 : Int32) v x = some (pw x (upd (rw1 x) (130 + 11 * s + 9) v)) := by
  unfold D_X10_putFeeder
  have e : ((130 : Int32) + ((11 : Int32) * I s)) + (9 : Int32) = I (130 + 11 * s + 9) := by
    rw [show (130 : Int32) = I 130 from rfl, show (11 : Int32) = I 11 from rfl, show (9 : Int32) = I 9 from rfl, I_mul, I_add, I_add]
  rw [e, gd_ok (ok_I (by omega) (by omega)), I_tnc (by omega)]
  rfl
theorem oFd10 {s : Nat} (hs : s < 10) (x : MM) : D_X10_ofFeeder (I s) (10 : Int32) x = some (rw1 x (130 + 11 * s + 10)) := by
  unfold D_X10_ofFeeder
  have e : ((130 : Int32) + ((11 : Int32) * I s)) + (10 : Int32) = I (130 + 11 * s + 10) := by
    rw [show (130 : Int32) = I 130 from rfl, show (11 : Int32) = I 11 from rfl, show (10 : Int32) = I 10 from rfl, I_mul, I_add, I_add]
  rw [e, gd_ok (ok_I (by omega) (by omega)), I_tnc (by omega)]
  rfl
theorem poFd10 {s : Nat} (hs : s < 10) (v : Int32) (x : MM) : D_X10_putFeeder (I s) (10 : Int32) v x = some (pw x (upd (rw1 x) (130 + 11 * s + 10) v)) := by
  unfold D_X10_putFeeder
  have e : ((130 : Int32) + ((11 : Int32) * I s)) + (10 : Int32) = I (130 + 11 * s + 10) := by
    rw [show (130 : Int32) = I 130 from rfl, show (11 : Int32) = I 11 from rfl, show (10 : Int32) = I 10 from rfl, I_mul, I_add, I_add]
  rw [e, gd_ok (ok_I (by omega) (by omega)), I_tnc (by omega)]
  rfl
theorem oSt0 {s : Nat} (hs : s < 40) (x : MM) : D_X10_ofSpot (I s) (0 : Int32) x = some (rw1 x (240 + 6 * s)) := by
  unfold D_X10_ofSpot
  have e : ((240 : Int32) + ((6 : Int32) * I s)) + (0 : Int32) = I (240 + 6 * s) := by
    rw [show (240 : Int32) = I 240 from rfl, show (6 : Int32) = I 6 from rfl, show (0 : Int32) = I 0 from rfl, I_mul, I_add, I_add]
    rfl
  rw [e, gd_ok (ok_I (by omega) (by omega)), I_tnc (by omega)]
  rfl
theorem poSt0 {s : Nat} (hs : s < 40) (v : Int32) (x : MM) : D_X10_putSpot (I s) (0 : Int32) v x = some (pw x (upd (rw1 x) (240 + 6 * s) v)) := by
  unfold D_X10_putSpot
  have e : ((240 : Int32) + ((6 : Int32) * I s)) + (0 : Int32) = I (240 + 6 * s) := by
    rw [show (240 : Int32) = I 240 from rfl, show (6 : Int32) = I 6 from rfl, show (0 : Int32) = I 0 from rfl, I_mul, I_add, I_add]
    rfl
  rw [e, gd_ok (ok_I (by omega) (by omega)), I_tnc (by omega)]
  rfl
theorem oSt1 {s : Nat} (hs : s < 40) (x : MM) : D_X10_ofSpot (I s) (1 : Int32) x = some (rw1 x (240 + 6 * s + 1)) := by
  unfold D_X10_ofSpot
  have e : ((240 : Int32) + ((6 : Int32) * I s)) + (1 : Int32) = I (240 + 6 * s + 1) := by
    rw [show (240 : Int32) = I 240 from rfl, show (6 : Int32) = I 6 from rfl, show (1 : Int32) = I 1 from rfl, I_mul, I_add, I_add]
  rw [e, gd_ok (ok_I (by omega) (by omega)), I_tnc (by omega)]
  rfl
theorem poSt1 {s : Nat} (hs : s < 40) (v : Int32) (x : MM) : D_X10_putSpot (I s) (1 : Int32) v x = some (pw x (upd (rw1 x) (240 + 6 * s + 1) v)) := by
  unfold D_X10_putSpot
  have e : ((240 : Int32) + ((6 : Int32) * I s)) + (1 : Int32) = I (240 + 6 * s + 1) := by
    rw [show (240 : Int32) = I 240 from rfl, show (6 : Int32) = I 6 from rfl, show (1 : Int32) = I 1 from rfl, I_mul, I_add, I_add]
  rw [e, gd_ok (ok_I (by omega) (by omega)), I_tnc (by omega)]
  rfl
theorem oSt2 {s : Nat} (hs : s < 40) (x : MM) : D_X10_ofSpot (I s) (2 : Int32) x = some (rw1 x (240 + 6 * s + 2)) := by
  unfold D_X10_ofSpot
  have e : ((240 : Int32) + ((6 : Int32) * I s)) + (2 : Int32) = I (240 + 6 * s + 2) := by
    rw [show (240 : Int32) = I 240 from rfl, show (6 : Int32) = I 6 from rfl, show (2 : Int32) = I 2 from rfl, I_mul, I_add, I_add]
  rw [e, gd_ok (ok_I (by omega) (by omega)), I_tnc (by omega)]
  rfl
theorem poSt2 {s : Nat} (hs : s < 40) (v : Int32) (x : MM) : D_X10_putSpot (I s) (2 : Int32) v x = some (pw x (upd (rw1 x) (240 + 6 * s + 2) v)) := by
  unfold D_X10_putSpot
  have e : ((240 : Int32) + ((6 : Int32) * I s)) + (2 : Int32) = I (240 + 6 * s + 2) := by
    rw [show (240 : Int32) = I 240 from rfl, show (6 : Int32) = I 6 from rfl, show (2 : Int32) = I 2 from rfl, I_mul, I_add, I_add]
  rw [e, gd_ok (ok_I (by omega) (by omega)), I_tnc (by omega)]
  rfl
theorem oSt3 {s : Nat} (hs : s < 40) (x : MM) : D_X10_ofSpot (I s) (3 : Int32) x = some (rw1 x (240 + 6 * s + 3)) := by
  unfold D_X10_ofSpot
  have e : ((240 : Int32) + ((6 : Int32) * I s)) + (3 : Int32) = I (240 + 6 * s + 3) := by
    rw [show (240 : Int32) = I 240 from rfl, show (6 : Int32) = I 6 from rfl, show (3 : Int32) = I 3 from rfl, I_mul, I_add, I_add]
  rw [e, gd_ok (ok_I (by omega) (by omega)), I_tnc (by omega)]
  rfl
theorem poSt3 {s : Nat} (hs : s < 40) (v : Int32) (x : MM) : D_X10_putSpot (I s) (3 : Int32) v x = some (pw x (upd (rw1 x) (240 + 6 * s + 3) v)) := by
  unfold D_X10_putSpot
  have e : ((240 : Int32) + ((6 : Int32) * I s)) + (3 : Int32) = I (240 + 6 * s + 3) := by
    rw [show (240 : Int32) = I 240 from rfl, show (6 : Int32) = I 6 from rfl, show (3 : Int32) = I 3 from rfl, I_mul, I_add, I_add]
  rw [e, gd_ok (ok_I (by omega) (by omega)), I_tnc (by omega)]
  rfl
theorem oSt4 {s : Nat} (hs : s < 40) (x : MM) : D_X10_ofSpot (I s) (4 : Int32) x = some (rw1 x (240 + 6 * s + 4)) := by
  unfold D_X10_ofSpot
  have e : ((240 : Int32) + ((6 : Int32) * I s)) + (4 : Int32) = I (240 + 6 * s + 4) := by
    rw [show (240 : Int32) = I 240 from rfl, show (6 : Int32) = I 6 from rfl, show (4 : Int32) = I 4 from rfl, I_mul, I_add, I_add]
  rw [e, gd_ok (ok_I (by omega) (by omega)), I_tnc (by omega)]
  rfl
theorem poSt4 {s : Nat} (hs : s < 40) (v : Int32) (x : MM) : D_X10_putSpot (I s) (4 : Int32) v x = some (pw x (upd (rw1 x) (240 + 6 * s + 4) v)) := by
  unfold D_X10_putSpot
  have e : ((240 : Int32) + ((6 : Int32) * I s)) + (4 : Int32) = I (240 + 6 * s + 4) := by
    rw [show (240 : Int32) = I 240 from rfl, show (6 : Int32) = I 6 from rfl, show (4 : Int32) = I 4 from rfl, I_mul, I_add, I_add]
  rw [e, gd_ok (ok_I (by omega) (by omega)), I_tnc (by omega)]
  rfl
theorem oSt5 {s : Nat} (hs : s < 40) (x : MM) : D_X10_ofSpot (I s) (5 : Int32) x = some (rw1 x (240 + 6 * s + 5)) := by
  unfold D_X10_ofSpot
  have e : ((240 : Int32) + ((6 : Int32) * I s)) + (5 : Int32) = I (240 + 6 * s + 5) := by
    rw [show (240 : Int32) = I 240 from rfl, show (6 : Int32) = I 6 from rfl, show (5 : Int32) = I 5 from rfl, I_mul, I_add, I_add]
  rw [e, gd_ok (ok_I (by omega) (by omega)), I_tnc (by omega)]
  rfl
theorem poSt5 {s : Nat} (hs : s < 40) (v : Int32) (x : MM) : D_X10_putSpot (I s) (5 : Int32) v x = some (pw x (upd (rw1 x) (240 + 6 * s + 5) v)) := by
  unfold D_X10_putSpot
  have e : ((240 : Int32) + ((6 : Int32) * I s)) + (5 : Int32) = I (240 + 6 * s + 5) := by
    rw [show (240 : Int32) = I 240 from rfl, show (6 : Int32) = I 6 from rfl, show (5 : Int32) = I 5 from rfl, I_mul, I_add, I_add]
  rw [e, gd_ok (ok_I (by omega) (by omega)), I_tnc (by omega)]
  rfl
theorem oBk0 {s : Nat} (hs : s < 8) (x : MM) : D_X10_booked (I s) (0 : Int32) x = some (rw1 x (90 + 5 * s)) := by
  unfold D_X10_booked
  have e : ((90 : Int32) + ((5 : Int32) * I s)) + (0 : Int32) = I (90 + 5 * s) := by
    rw [show (90 : Int32) = I 90 from rfl, show (5 : Int32) = I 5 from rfl, show (0 : Int32) = I 0 from rfl, I_mul, I_add, I_add]
    rfl
  rw [e, gd_ok (ok_I (by omega) (by omega)), I_tnc (by omega)]
  rfl
theorem oBk1 {s : Nat} (hs : s < 8) (x : MM) : D_X10_booked (I s) (1 : Int32) x = some (rw1 x (90 + 5 * s + 1)) := by
  unfold D_X10_booked
  have e : ((90 : Int32) + ((5 : Int32) * I s)) + (1 : Int32) = I (90 + 5 * s + 1) := by
    rw [show (90 : Int32) = I 90 from rfl, show (5 : Int32) = I 5 from rfl, show (1 : Int32) = I 1 from rfl, I_mul, I_add, I_add]
  rw [e, gd_ok (ok_I (by omega) (by omega)), I_tnc (by omega)]
  rfl
theorem oBk2 {s : Nat} (hs : s < 8) (x : MM) : D_X10_booked (I s) (2 : Int32) x = some (rw1 x (90 + 5 * s + 2)) := by
  unfold D_X10_booked
  have e : ((90 : Int32) + ((5 : Int32) * I s)) + (2 : Int32) = I (90 + 5 * s + 2) := by
    rw [show (90 : Int32) = I 90 from rfl, show (5 : Int32) = I 5 from rfl, show (2 : Int32) = I 2 from rfl, I_mul, I_add, I_add]
  rw [e, gd_ok (ok_I (by omega) (by omega)), I_tnc (by omega)]
  rfl
theorem oBk3 {s : Nat} (hs : s < 8) (x : MM) : D_X10_booked (I s) (3 : Int32) x = some (rw1 x (90 + 5 * s + 3)) := by
  unfold D_X10_booked
  have e : ((90 : Int32) + ((5 : Int32) * I s)) + (3 : Int32) = I (90 + 5 * s + 3) := by
    rw [show (90 : Int32) = I 90 from rfl, show (5 : Int32) = I 5 from rfl, show (3 : Int32) = I 3 from rfl, I_mul, I_add, I_add]
  rw [e, gd_ok (ok_I (by omega) (by omega)), I_tnc (by omega)]
  rfl
theorem oBk4 {s : Nat} (hs : s < 8) (x : MM) : D_X10_booked (I s) (4 : Int32) x = some (rw1 x (90 + 5 * s + 4)) := by
  unfold D_X10_booked
  have e : ((90 : Int32) + ((5 : Int32) * I s)) + (4 : Int32) = I (90 + 5 * s + 4) := by
    rw [show (90 : Int32) = I 90 from rfl, show (5 : Int32) = I 5 from rfl, show (4 : Int32) = I 4 from rfl, I_mul, I_add, I_add]
  rw [e, gd_ok (ok_I (by omega) (by omega)), I_tnc (by omega)]
  rfl
theorem bks0 {s : Nat} (hs : s < 8) (v : Int32) (x : MM) : D_X10_books (I s) (0 : Int32) v x = some (pw x (upd (rw1 x) (90 + 5 * s) (rw1 x (90 + 5 * s) + v))) := by
  unfold D_X10_books
  have e : ((90 : Int32) + ((5 : Int32) * I s)) + (0 : Int32) = I (90 + 5 * s) := by
    rw [show (90 : Int32) = I 90 from rfl, show (5 : Int32) = I 5 from rfl, show (0 : Int32) = I 0 from rfl, I_mul, I_add, I_add]
    rfl
  rw [e]
  simp only [bnd_s]
  rw [gd_ok (ok_I (by omega) (by omega)), gd_ok (ok_I (by omega) (by omega)), I_tnc (by omega)]
  rfl
theorem bks1 {s : Nat} (hs : s < 8) (v : Int32) (x : MM) : D_X10_books (I s) (1 : Int32) v x = some (pw x (upd (rw1 x) (90 + 5 * s + 1) (rw1 x (90 + 5 * s + 1) + v))) := by
  unfold D_X10_books
  have e : ((90 : Int32) + ((5 : Int32) * I s)) + (1 : Int32) = I (90 + 5 * s + 1) := by
    rw [show (90 : Int32) = I 90 from rfl, show (5 : Int32) = I 5 from rfl, show (1 : Int32) = I 1 from rfl, I_mul, I_add, I_add]
  rw [e]
  simp only [bnd_s]
  rw [gd_ok (ok_I (by omega) (by omega)), gd_ok (ok_I (by omega) (by omega)), I_tnc (by omega)]
  rfl
theorem bks2 {s : Nat} (hs : s < 8) (v : Int32) (x : MM) : D_X10_books (I s) (2 : Int32) v x = some (pw x (upd (rw1 x) (90 + 5 * s + 2) (rw1 x (90 + 5 * s + 2) + v))) := by
  unfold D_X10_books
  have e : ((90 : Int32) + ((5 : Int32) * I s)) + (2 : Int32) = I (90 + 5 * s + 2) := by
    rw [show (90 : Int32) = I 90 from rfl, show (5 : Int32) = I 5 from rfl, show (2 : Int32) = I 2 from rfl, I_mul, I_add, I_add]
  rw [e]
  simp only [bnd_s]
  rw [gd_ok (ok_I (by omega) (by omega)), gd_ok (ok_I (by omega) (by omega)), I_tnc (by omega)]
  rfl
theorem bks3 {s : Nat} (hs : s < 8) (v : Int32) (x : MM) : D_X10_books (I s) (3 : Int32) v x = some (pw x (upd (rw1 x) (90 + 5 * s + 3) (rw1 x (90 + 5 * s + 3) + v))) := by
  unfold D_X10_books
  have e : ((90 : Int32) + ((5 : Int32) * I s)) + (3 : Int32) = I (90 + 5 * s + 3) := by
    rw [show (90 : Int32) = I 90 from rfl, show (5 : Int32) = I 5 from rfl, show (3 : Int32) = I 3 from rfl, I_mul, I_add, I_add]
  rw [e]
  simp only [bnd_s]
  rw [gd_ok (ok_I (by omega) (by omega)), gd_ok (ok_I (by omega) (by omega)), I_tnc (by omega)]
  rfl
theorem bks4 {s : Nat} (hs : s < 8) (v : Int32) (x : MM) : D_X10_books (I s) (4 : Int32) v x = some (pw x (upd (rw1 x) (90 + 5 * s + 4) (rw1 x (90 + 5 * s + 4) + v))) := by
  unfold D_X10_books
  have e : ((90 : Int32) + ((5 : Int32) * I s)) + (4 : Int32) = I (90 + 5 * s + 4) := by
    rw [show (90 : Int32) = I 90 from rfl, show (5 : Int32) = I 5 from rfl, show (4 : Int32) = I 4 from rfl, I_mul, I_add, I_add]
  rw [e]
  simp only [bnd_s]
  rw [gd_ok (ok_I (by omega) (by omega)), gd_ok (ok_I (by omega) (by omega)), I_tnc (by omega)]
  rfl
theorem oRe {s k : Nat} (hs : s < 10) (hk : k < 3) (x : MM) : D_X10_ofFeeder (I s) ((8 : Int32) + I k) x = some (rw1 x (138 + 11 * s + k)) := by
  unfold D_X10_ofFeeder
  have e : ((130 : Int32) + ((11 : Int32) * I s)) + ((8 : Int32) + I k) = I (138 + 11 * s + k) := by
    rw [show (130 : Int32) = I 130 from rfl, show (11 : Int32) = I 11 from rfl, show (8 : Int32) = I 8 from rfl, I_mul, I_add, I_add, I_add]
    congr 1
    omega
  rw [e, gd_ok (ok_I (by omega) (by omega)), I_tnc (by omega)]
  rfl
theorem poRe {s k : Nat} (hs : s < 10) (hk : k < 3) (v : Int32) (x : MM) : D_X10_putFeeder (I s) ((8 : Int32) + I k) v x = some (pw x (upd (rw1 x) (138 + 11 * s + k) v)) := by
  unfold D_X10_putFeeder
  have e : ((130 : Int32) + ((11 : Int32) * I s)) + ((8 : Int32) + I k) = I (138 + 11 * s + k) := by
    rw [show (130 : Int32) = I 130 from rfl, show (11 : Int32) = I 11 from rfl, show (8 : Int32) = I 8 from rfl, I_mul, I_add, I_add, I_add]
    congr 1
    omega
  rw [e, gd_ok (ok_I (by omega) (by omega)), I_tnc (by omega)]
  rfl
/-- what was thrown -/
def th (x : MM) (c : Int32) : MM := si x 0 6 c
theorem upd_upd (f : Nat → Int32) (k : Nat) (a b : Int32) : upd (upd f k a) k b = upd f k b := by
  funext j
  by_cases h : j = k
  · subst h; rw [upd_eq, upd_eq]
  · rw [upd_ne h, upd_ne h, upd_ne h]
theorem th_th (x : MM) (a b : Int32) : th (th x a) b = th x b := by
  show (va_up (va_up x.1 0 (upd (x.1 0) 6 a)) 0 (upd (va_up x.1 0 (upd (x.1 0) 6 a) 0) 6 b), x.2) = (va_up x.1 0 (upd (x.1 0) 6 b), x.2)
  congr 1
  funext q
  unfold va_up
  by_cases h : q = 0
  · rw [if_pos h, if_pos h, if_pos rfl, upd_upd]
  · rw [if_neg h, if_neg h, if_neg h]
theorem gi_th6 (x : MM) (c : Int32) : gi (th x c) 0 6 = c := gi_si_eq _ _ _ _
theorem gi_th1 (x : MM) (c : Int32) (k : Nat) : gi (th x c) 1 k = gi x 1 k := gi_si_ne (Or.inl (by decide))
theorem rw1_th (x : MM) (c : Int32) : rw1 (th x c) = rw1 x := funext fun k => gi_th1 x c k
theorem thd_eq (x : MM) : D_X10_thrown x = some (gi x 0 6) := rfl
theorem in_eq (a b c : Int64) : D_X10_in a b c = some (if b.toInt ≤ a.toInt ∧ a.toInt ≤ c.toInt then 1 else 0) := by
  unfold D_X10_in
  by_cases h1 : a < b
  · rw [if_pos h1]
    rw [Int64.lt_iff_toInt_lt] at h1
    rw [if_neg (by omega)]
  · rw [if_neg h1]
    rw [Int64.lt_iff_toInt_lt] at h1
    by_cases h2 : c < a
    · rw [if_pos h2]
      rw [Int64.lt_iff_toInt_lt] at h2
      rw [if_neg (by omega)]
    · rw [if_neg h2]
      rw [Int64.lt_iff_toInt_lt] at h2
      rw [if_pos (by omega)]
theorem ok_iff (x : Int32) (n : Nat) : ok x n ↔ 0 ≤ x.toInt ∧ x.toInt < (n : Int) := by
  constructor
  · intro h
    have h1 := toInt_nn (ok_nn h)
    have h2 := ok_lt h
    have h3 := tnc_toInt (ok_nn h)
    omega
  · intro h z
    rcases z with z | z
    · rw [Int32.lt_iff_toInt_lt] at z
      have : (0 : Int32).toInt = 0 := rfl
      omega
    · have h3 := tnc_toInt (x := x) (by rw [Int32.le_iff_toInt_le]; exact h.1)
      omega
theorem I_pred {n : Nat} (h : n < 2147483648) : (I n - 1).toInt = (n : Int) - 1 := by
  cases n with
  | zero => rfl
  | succ k =>
    rw [show (1 : Int32) = I 1 from rfl, I_sub (by omega), I_toInt (by omega)]
    omega
/-- the place of x below n -/
theorem in_ok {x : Int32} {c : Int64} {n : Nat} (hc : c.toInt = (n : Int) - 1) : D_X10_in x.toInt64 (0 : Int64) c = some (if ok x n then 1 else 0) := by
  rw [in_eq]
  have h0 : (0 : Int64).toInt = 0 := rfl
  rw [h0, hc, Int32.toInt_toInt64]
  by_cases h : ok x n
  · rw [if_pos h, if_pos (by have := (ok_iff x n).mp h; omega)]
  · rw [if_neg h, if_neg (fun z => h ((ok_iff x n).mpr (by omega)))]
theorem in_I {x : Int32} {n : Nat} (hn : n < 2147483648) : D_X10_in x.toInt64 (0 : Int64) ((I n - (1 : Int32)).toInt64) = some (if ok x n then 1 else 0) := in_ok (by rw [Int32.toInt_toInt64, I_pred hn])
theorem tif0 {x : MM} (h : gi x 0 6 = 0) (c : Int32) : D_X10_throwsIf (0 : Int32) c x = some (0, x) := by
  unfold D_X10_throwsIf
  rw [if_pos h, if_pos rfl, if_pos h]
theorem tif1 {x : MM} (h : gi x 0 6 = 0) {c : Int32} (hc : c ≠ 0) : D_X10_throwsIf (1 : Int32) c x = some (1, th x c) := by
  unfold D_X10_throwsIf
  rw [if_pos h, if_neg (by decide)]
  show (if gi (th x c) 0 6 = 0 then _ else _) = _
  rw [gi_th6, if_neg hc]
  rfl
theorem fine_eq (x : MM) : D_X10_fine x = some (1, th x 0) := rfl
theorem nsp_y {x : MM} {n : Nat} {x1 : Int32} (hn : rw1 x 15 = I n) (h2 : n < 2147483648) (h : ok x1 n) : D_X10_noSpindle x1 x = some (0, th x 0) := by
  unfold D_X10_noSpindle
  show b1 (D_X10_in x1.toInt64 0 ((gi (th x 0) 1 15 - 1).toInt64)) _ = _
  rw [gi_th1, gi_rw1, hn, in_I h2, if_pos h]
  rw [b1_s, if_neg (show ¬ (1 : Int32) = 0 by decide)]
  show b2 (D_X10_throwsIf 0 1 (th x 0)) _ = _
  rw [tif0 (gi_th6 x 0), b2_s, if_pos (Or.inl rfl)]
theorem nsp_n {x : MM} {n : Nat} {x1 : Int32} (hn : rw1 x 15 = I n) (h2 : n < 2147483648) (h : ¬ ok x1 n) : D_X10_noSpindle x1 x = some (1, th x 1) := by
  unfold D_X10_noSpindle
  show b1 (D_X10_in x1.toInt64 0 ((gi (th x 0) 1 15 - 1).toInt64)) _ = _
  rw [gi_th1, gi_rw1, hn, in_I h2, if_neg h]
  rw [b1_s, if_pos rfl]
  show b2 (D_X10_throwsIf 1 1 (th x 0)) _ = _
  rw [tif1 (gi_th6 x 0) (by decide), th_th, b2_s, if_pos (Or.inr rfl)]
theorem nkd_y {x : MM} {n : Nat} {x1 : Int32} (hn : rw1 x 17 = I n) (h2 : n < 2147483648) (h : ok x1 n) : D_X10_noKind x1 x = some (0, th x 0) := by
  unfold D_X10_noKind
  show b1 (D_X10_in x1.toInt64 0 ((gi (th x 0) 1 17 - 1).toInt64)) _ = _
  rw [gi_th1, gi_rw1, hn, in_I h2, if_pos h]
  rw [b1_s, if_neg (show ¬ (1 : Int32) = 0 by decide)]
  show b2 (D_X10_throwsIf 0 1 (th x 0)) _ = _
  rw [tif0 (gi_th6 x 0), b2_s, if_pos (Or.inl rfl)]
theorem nkd_n {x : MM} {n : Nat} {x1 : Int32} (hn : rw1 x 17 = I n) (h2 : n < 2147483648) (h : ¬ ok x1 n) : D_X10_noKind x1 x = some (1, th x 1) := by
  unfold D_X10_noKind
  show b1 (D_X10_in x1.toInt64 0 ((gi (th x 0) 1 17 - 1).toInt64)) _ = _
  rw [gi_th1, gi_rw1, hn, in_I h2, if_neg h]
  rw [b1_s, if_pos rfl]
  show b2 (D_X10_throwsIf 1 1 (th x 0)) _ = _
  rw [tif1 (gi_th6 x 0) (by decide), th_th, b2_s, if_pos (Or.inr rfl)]
theorem ity_e {x : MM} {n : Nat} {x1 : Int32} (hn : rw1 x 16 = I n) (h2 : n < 2147483648) : D_X10_isType x1 x = some (if ok x1 n then 1 else 0) := by
  unfold D_X10_isType
  rw [gi_rw1, hn, in_I h2]
  by_cases h : ok x1 n
  · rw [if_pos h, b1_s, if_pos (Or.inr rfl)]
  · rw [if_neg h, b1_s, if_pos (Or.inl rfl)]
theorem ifd_e {x : MM} {n : Nat} {x1 : Int32} (hn : rw1 x 18 = I n) (h2 : n < 2147483648) : D_X10_isFeeder x1 x = some (if ok x1 n then 1 else 0) := by
  unfold D_X10_isFeeder
  rw [gi_rw1, hn, in_I h2]
  by_cases h : ok x1 n
  · rw [if_pos h, b1_s, if_pos (Or.inr rfl)]
  · rw [if_neg h, b1_s, if_pos (Or.inl rfl)]
theorem ist_e {x : MM} {n : Nat} {x1 : Int32} (hn : rw1 x 19 = I n) (h2 : n < 2147483648) : D_X10_isSpot x1 x = some (if ok x1 n then 1 else 0) := by
  unfold D_X10_isSpot
  rw [gi_rw1, hn, in_I h2]
  by_cases h : ok x1 n
  · rw [if_pos h, b1_s, if_pos (Or.inr rfl)]
  · rw [if_neg h, b1_s, if_pos (Or.inl rfl)]
theorem nfd_y {x : MM} {n : Nat} {x1 : Int32} (hn : rw1 x 18 = I n) (h2 : n < 2147483648) (h : ok x1 n) : D_X10_noFeeder x1 x = some (0, th x 0) := by
  unfold D_X10_noFeeder
  show b1 (D_X10_isFeeder x1 (th x 0)) _ = _
  rw [ifd_e (by rw [rw1_th]; exact hn) h2, if_pos h]
  rw [b1_s, if_neg (show ¬ (1 : Int32) = 0 by decide)]
  show b2 (D_X10_throwsIf 0 1 (th x 0)) _ = _
  rw [tif0 (gi_th6 x 0), b2_s, if_pos (Or.inl rfl)]
theorem nfd_n {x : MM} {n : Nat} {x1 : Int32} (hn : rw1 x 18 = I n) (h2 : n < 2147483648) (h : ¬ ok x1 n) : D_X10_noFeeder x1 x = some (1, th x 1) := by
  unfold D_X10_noFeeder
  show b1 (D_X10_isFeeder x1 (th x 0)) _ = _
  rw [ifd_e (by rw [rw1_th]; exact hn) h2, if_neg h]
  rw [b1_s, if_pos rfl]
  show b2 (D_X10_throwsIf 1 1 (th x 0)) _ = _
  rw [tif1 (gi_th6 x 0) (by decide), th_th, b2_s, if_pos (Or.inr rfl)]
theorem nst_y {x : MM} {n : Nat} {x1 : Int32} (hn : rw1 x 19 = I n) (h2 : n < 2147483648) (h : ok x1 n) : D_X10_noSpot x1 x = some (0, th x 0) := by
  unfold D_X10_noSpot
  show b1 (D_X10_isSpot x1 (th x 0)) _ = _
  rw [ist_e (by rw [rw1_th]; exact hn) h2, if_pos h]
  rw [b1_s, if_neg (show ¬ (1 : Int32) = 0 by decide)]
  show b2 (D_X10_throwsIf 0 1 (th x 0)) _ = _
  rw [tif0 (gi_th6 x 0), b2_s, if_pos (Or.inl rfl)]
theorem nst_n {x : MM} {n : Nat} {x1 : Int32} (hn : rw1 x 19 = I n) (h2 : n < 2147483648) (h : ¬ ok x1 n) : D_X10_noSpot x1 x = some (1, th x 1) := by
  unfold D_X10_noSpot
  show b1 (D_X10_isSpot x1 (th x 0)) _ = _
  rw [ist_e (by rw [rw1_th]; exact hn) h2, if_neg h]
  rw [b1_s, if_pos rfl]
  show b2 (D_X10_throwsIf 1 1 (th x 0)) _ = _
  rw [tif1 (gi_th6 x 0) (by decide), th_th, b2_s, if_pos (Or.inr rfl)]
theorem rqi_y {x : Int32} {n : Nat} (hn : n < 2147483648) (h : ok x n) : D_X9_requireIndex x (I n) = some (.inr ()) := by
  unfold D_X9_requireIndex
  rw [if_neg (fun z => h (Or.inl z)), if_pos (by rw [ok_eq h, I_lt (tnc_small x) hn]; exact ok_lt h)]
  rfl
theorem rqi_n {x : Int32} {n : Nat} (hn : n < 2147483648) (h : ¬ ok x n) : D_X9_requireIndex x (I n) = some (.inl 0) := by
  unfold D_X9_requireIndex
  by_cases h1 : x < 0
  · rw [if_pos h1]
  · rw [if_neg h1, if_neg (fun z => h (ok_lo (a := 0) (i32_nlt h1) z (by decide) hn))]
theorem rqr_eq (x lo hi : Int32) : D_X9_requireRange x lo hi = if lo.toInt ≤ x.toInt ∧ x.toInt ≤ hi.toInt then some (.inr ()) else some (.inl 1) := by
  unfold D_X9_requireRange
  by_cases h1 : x < lo
  · rw [if_pos h1]
    rw [Int32.lt_iff_toInt_lt] at h1
    rw [if_neg (by omega)]
  · rw [if_neg h1]
    rw [Int32.lt_iff_toInt_lt] at h1
    by_cases h2 : x ≤ hi
    · rw [if_pos h2]
      rw [Int32.le_iff_toInt_le] at h2
      rw [if_pos (by omega)]
      rfl
    · rw [if_neg h2]
      rw [Int32.le_iff_toInt_le] at h2
      rw [if_neg (by omega)]
theorem rqr_ok {x hi : Int32} {n : Nat} (hh : hi.toInt = (n : Int) - 1) : D_X9_requireRange x 0 hi = if ok x n then some (.inr ()) else some (.inl 1) := by
  rw [rqr_eq]
  have h0 : (0 : Int32).toInt = 0 := rfl
  rw [h0, hh]
  by_cases h : ok x n
  · rw [if_pos h, if_pos (by have := (ok_iff x n).mp h; omega)]
  · rw [if_neg h, if_neg (fun z => h ((ok_iff x n).mpr (by omega)))]
