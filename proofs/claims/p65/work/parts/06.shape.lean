/-! what the cells of a machine, and of the reference, are: place by place -/
def fX6 (ad : Nat → Nat) (r : Nat → Int32) : List Value := [.ref (ad 25), .int (r 1), .ref (ad 26), .int (r 3), .ref (ad 27), .ref (ad 28), .int (r 6), .ref (ad 35), .ref (ad 36), .int (r 9), .ref (ad 45), .int (r 11), .int (r 12), .int (r 13), .int (r 14), .int (r 15)]
def fX5 (ad : Nat → Nat) (r : Nat → Int32) : List Value := [.int (r 0), .ref (ad 29), .ref (ad 30), .ref (ad 31), .ref (ad 32), .ref (ad 33), .ref (ad 34)]
def fX0 (ad : Nat → Nat) (r : Nat → Int32) (t : Nat → Int64) : List Value := [.int (r 0), .ref (ad 37), .ref (ad 38), .ref (ad 39), .ref (ad 40), .ref (ad 41), .ref (ad 42), .long (t 7), .long (t 8), .int (r 9), .ref (ad 43), .ref (ad 44)]
def fX4 (ad : Nat → Nat) (r : Nat → Int32) : List Value := [.int (r 0), .int (r 1), .ref (ad 46), .ref (ad 47), .ref (ad 48), .ref (ad 49), .ref (ad 50), .int (r 7), .int (r 8)]
def fX2 (a : Nat) (r : Nat → Int32) : List Value := [.int (r 0), .int (r 1), .int (r 2), .int (r 3), .int (r 4), .ref a, .int (r 6), .int (r 7), .int (r 8)]
def fX8 (r : Nat → Int32) : List Value := [.int (r 0), .int (r 1), .int (r 2), .int (r 3), .int (r 4), .int (r 5), .int (r 6), .int (r 7)]
def mst_ (cs : Nat → ClassId) (ad : Nat → Nat) (q : Nat) (r : Nat → Int32) (t : Nat → Int64) : va_E := match q with
  | 24 => .inr (6, fX6 ad r)
  | 25 => .inl (cs 1, 15, .inl r)
  | 26 => .inl (cs 4, 4, .inr (.inr (.inr (.inr (fun i => some (ad i))))))
  | 27 => .inl (cs 1, 6, .inl r)
  | 28 => .inr (5, fX5 ad r)
  | 29 => .inl (cs 1, 8, .inl r)
  | 30 => .inl (cs 1, 8, .inl r)
  | 31 => .inl (cs 1, 8, .inl r)
  | 32 => .inl (cs 1, 8, .inl r)
  | 33 => .inl (cs 1, 8, .inl r)
  | 34 => .inl (cs 1, 8, .inl r)
  | 35 => .inl (cs 5, 10, .inr (.inr (.inr (.inr (fun i => some (ad (4 + i)))))))
  | 36 => .inr (0, fX0 ad r t)
  | 37 => .inl (cs 1, 40, .inl r)
  | 38 => .inl (cs 1, 40, .inl r)
  | 39 => .inl (cs 1, 40, .inl r)
  | 40 => .inl (cs 1, 40, .inl r)
  | 41 => .inl (cs 1, 40, .inl r)
  | 42 => .inl (cs 2, 8, .inr (.inl t))
  | 43 => .inl (cs 1, 20, .inl r)
  | 44 => .inl (cs 1, 20, .inl r)
  | 45 => .inr (4, fX4 ad r)
  | 46 => .inl (cs 1, 40, .inl r)
  | 47 => .inl (cs 1, 40, .inl r)
  | 48 => .inl (cs 1, 40, .inl r)
  | 49 => .inl (cs 1, 7, .inl r)
  | _ => .inl (cs 1, 7, .inl r)
def msh (cs : Nat → ClassId) (ad : Nat → Nat) : Sh := fun q r t => if q < 4 then .inr (8, fX8 r) else if q < 14 then .inr (2, fX2 (ad (q + 10)) r) else if q < 24 then .inl (cs 1, 3, .inl r) else mst_ cs ad q r t
theorem ms24 {cs : Nat → ClassId} {ad : Nat → Nat} (r : Nat → Int32) (t : Nat → Int64) : msh cs ad 24 r t = .inr (6, fX6 ad r) := rfl
theorem ms25 {cs : Nat → ClassId} {ad : Nat → Nat} (r : Nat → Int32) (t : Nat → Int64) : msh cs ad 25 r t = .inl (cs 1, 15, .inl r) := rfl
theorem ms26 {cs : Nat → ClassId} {ad : Nat → Nat} (r : Nat → Int32) (t : Nat → Int64) : msh cs ad 26 r t = .inl (cs 4, 4, .inr (.inr (.inr (.inr (fun i => some (ad i)))))) := rfl
theorem ms27 {cs : Nat → ClassId} {ad : Nat → Nat} (r : Nat → Int32) (t : Nat → Int64) : msh cs ad 27 r t = .inl (cs 1, 6, .inl r) := rfl
theorem ms28 {cs : Nat → ClassId} {ad : Nat → Nat} (r : Nat → Int32) (t : Nat → Int64) : msh cs ad 28 r t = .inr (5, fX5 ad r) := rfl
theorem ms29 {cs : Nat → ClassId} {ad : Nat → Nat} (r : Nat → Int32) (t : Nat → Int64) : msh cs ad 29 r t = .inl (cs 1, 8, .inl r) := rfl
theorem ms30 {cs : Nat → ClassId} {ad : Nat → Nat} (r : Nat → Int32) (t : Nat → Int64) : msh cs ad 30 r t = .inl (cs 1, 8, .inl r) := rfl
theorem ms31 {cs : Nat → ClassId} {ad : Nat → Nat} (r : Nat → Int32) (t : Nat → Int64) : msh cs ad 31 r t = .inl (cs 1, 8, .inl r) := rfl
theorem ms32 {cs : Nat → ClassId} {ad : Nat → Nat} (r : Nat → Int32) (t : Nat → Int64) : msh cs ad 32 r t = .inl (cs 1, 8, .inl r) := rfl
theorem ms33 {cs : Nat → ClassId} {ad : Nat → Nat} (r : Nat → Int32) (t : Nat → Int64) : msh cs ad 33 r t = .inl (cs 1, 8, .inl r) := rfl
theorem ms34 {cs : Nat → ClassId} {ad : Nat → Nat} (r : Nat → Int32) (t : Nat → Int64) : msh cs ad 34 r t = .inl (cs 1, 8, .inl r) := rfl
theorem ms35 {cs : Nat → ClassId} {ad : Nat → Nat} (r : Nat → Int32) (t : Nat → Int64) : msh cs ad 35 r t = .inl (cs 5, 10, .inr (.inr (.inr (.inr (fun i => some (ad (4 + i))))))) := rfl
theorem ms36 {cs : Nat → ClassId} {ad : Nat → Nat} (r : Nat → Int32) (t : Nat → Int64) : msh cs ad 36 r t = .inr (0, fX0 ad r t) := rfl
theorem ms37 {cs : Nat → ClassId} {ad : Nat → Nat} (r : Nat → Int32) (t : Nat → Int64) : msh cs ad 37 r t = .inl (cs 1, 40, .inl r) := rfl
theorem ms38 {cs : Nat → ClassId} {ad : Nat → Nat} (r : Nat → Int32) (t : Nat → Int64) : msh cs ad 38 r t = .inl (cs 1, 40, .inl r) := rfl
theorem ms39 {cs : Nat → ClassId} {ad : Nat → Nat} (r : Nat → Int32) (t : Nat → Int64) : msh cs ad 39 r t = .inl (cs 1, 40, .inl r) := rfl
theorem ms40 {cs : Nat → ClassId} {ad : Nat → Nat} (r : Nat → Int32) (t : Nat → Int64) : msh cs ad 40 r t = .inl (cs 1, 40, .inl r) := rfl
theorem ms41 {cs : Nat → ClassId} {ad : Nat → Nat} (r : Nat → Int32) (t : Nat → Int64) : msh cs ad 41 r t = .inl (cs 1, 40, .inl r) := rfl
theorem ms42 {cs : Nat → ClassId} {ad : Nat → Nat} (r : Nat → Int32) (t : Nat → Int64) : msh cs ad 42 r t = .inl (cs 2, 8, .inr (.inl t)) := rfl
theorem ms43 {cs : Nat → ClassId} {ad : Nat → Nat} (r : Nat → Int32) (t : Nat → Int64) : msh cs ad 43 r t = .inl (cs 1, 20, .inl r) := rfl
theorem ms44 {cs : Nat → ClassId} {ad : Nat → Nat} (r : Nat → Int32) (t : Nat → Int64) : msh cs ad 44 r t = .inl (cs 1, 20, .inl r) := rfl
theorem ms45 {cs : Nat → ClassId} {ad : Nat → Nat} (r : Nat → Int32) (t : Nat → Int64) : msh cs ad 45 r t = .inr (4, fX4 ad r) := rfl
theorem ms46 {cs : Nat → ClassId} {ad : Nat → Nat} (r : Nat → Int32) (t : Nat → Int64) : msh cs ad 46 r t = .inl (cs 1, 40, .inl r) := rfl
theorem ms47 {cs : Nat → ClassId} {ad : Nat → Nat} (r : Nat → Int32) (t : Nat → Int64) : msh cs ad 47 r t = .inl (cs 1, 40, .inl r) := rfl
theorem ms48 {cs : Nat → ClassId} {ad : Nat → Nat} (r : Nat → Int32) (t : Nat → Int64) : msh cs ad 48 r t = .inl (cs 1, 40, .inl r) := rfl
theorem ms49 {cs : Nat → ClassId} {ad : Nat → Nat} (r : Nat → Int32) (t : Nat → Int64) : msh cs ad 49 r t = .inl (cs 1, 7, .inl r) := rfl
theorem ms50 {cs : Nat → ClassId} {ad : Nat → Nat} (r : Nat → Int32) (t : Nat → Int64) : msh cs ad 50 r t = .inl (cs 1, 7, .inl r) := rfl
theorem msp {cs : Nat → ClassId} {ad : Nat → Nat} {q : Nat} (h : q < 4) (r : Nat → Int32) (t : Nat → Int64) : msh cs ad q r t = .inr (8, fX8 r) := if_pos h
theorem mfe {cs : Nat → ClassId} {ad : Nat → Nat} {q : Nat} (h1 : 4 ≤ q) (h2 : q < 14) (r : Nat → Int32) (t : Nat → Int64) : msh cs ad q r t = .inr (2, fX2 (ad (q + 10)) r) := by
  have h3 : ¬ q < 4 := by omega
  unfold msh
  rw [if_neg h3, if_pos h2]
theorem mre {cs : Nat → ClassId} {ad : Nat → Nat} {q : Nat} (h1 : 4 ≤ q) (h2 : q < 14) (r : Nat → Int32) (t : Nat → Int64) : msh cs ad (q + 10) r t = .inl (cs 1, 3, .inl r) := by
  have h3 : ¬ q + 10 < 4 := by omega
  have h4 : ¬ q + 10 < 14 := by omega
  have h5 : q + 10 < 24 := by omega
  unfold msh
  rw [if_neg h3, if_neg h4, if_pos h5]
theorem mreq {q : Nat} (h2 : q < 14) : q + 10 < 51 := by omega
def fX10 (ad : Nat → Nat) (r : Nat → Int32) : List Value := [.ref (ad 1), .ref (ad 2), .ref (ad 3), .ref (ad 4), .ref (ad 5), .ref (ad 6), .int (r 6), .ref (ad 7), .int (r 8), .int (r 9), .int (r 10), .int (r 11), .int (r 12), .int (r 13), .int (r 14), .ref (ad 8), .int (r 16)]
def xst_ (cs : Nat → ClassId) (ad : Nat → Nat) (q : Nat) (r : Nat → Int32) : va_E := match q with
  | 6 => .inl (cs 3, 2, .inl r)
  | 7 => .inl (cs 1, 900, .inl r)
  | _ => .inl (cs 1, 40, .inl r)
def xsh (cs : Nat → ClassId) (ad : Nat → Nat) : Sh := fun q r _ => if q = 0 then .inr (10, fX10 ad r) else if q < 6 then .inl (cs 1, 640, .inl r) else xst_ cs ad q r
theorem xs0 {cs : Nat → ClassId} {ad : Nat → Nat} (r : Nat → Int32) (t : Nat → Int64) : xsh cs ad 0 r t = .inr (10, fX10 ad r) := rfl
theorem xs1 {cs : Nat → ClassId} {ad : Nat → Nat} (r : Nat → Int32) (t : Nat → Int64) : xsh cs ad 1 r t = .inl (cs 1, 640, .inl r) := rfl
theorem xs2 {cs : Nat → ClassId} {ad : Nat → Nat} (r : Nat → Int32) (t : Nat → Int64) : xsh cs ad 2 r t = .inl (cs 1, 640, .inl r) := rfl
theorem xs3 {cs : Nat → ClassId} {ad : Nat → Nat} (r : Nat → Int32) (t : Nat → Int64) : xsh cs ad 3 r t = .inl (cs 1, 640, .inl r) := rfl
theorem xs4 {cs : Nat → ClassId} {ad : Nat → Nat} (r : Nat → Int32) (t : Nat → Int64) : xsh cs ad 4 r t = .inl (cs 1, 640, .inl r) := rfl
theorem xs5 {cs : Nat → ClassId} {ad : Nat → Nat} (r : Nat → Int32) (t : Nat → Int64) : xsh cs ad 5 r t = .inl (cs 1, 640, .inl r) := rfl
theorem xs6 {cs : Nat → ClassId} {ad : Nat → Nat} (r : Nat → Int32) (t : Nat → Int64) : xsh cs ad 6 r t = .inl (cs 3, 2, .inl r) := rfl
theorem xs7 {cs : Nat → ClassId} {ad : Nat → Nat} (r : Nat → Int32) (t : Nat → Int64) : xsh cs ad 7 r t = .inl (cs 1, 900, .inl r) := rfl
theorem xs8 {cs : Nat → ClassId} {ad : Nat → Nat} (r : Nat → Int32) (t : Nat → Int64) : xsh cs ad 8 r t = .inl (cs 1, 40, .inl r) := rfl
theorem xar {cs : Nat → ClassId} {ad : Nat → Nat} {q : Nat} (h1 : 1 ≤ q) (h2 : q < 6) (r : Nat → Int32) (t : Nat → Int64) : xsh cs ad q r t = .inl (cs 1, 640, .inl r) := by
  have h3 : ¬ q = 0 := by omega
  unfold xsh
  rw [if_neg h3, if_pos h2]
theorem xaq {q : Nat} (h2 : q < 6) : q < 9 := by omega
def fX9 (ad ma : Nat → Nat) (r : Nat → Int32) : List Value := [.ref (ad 5), .int (r 1), .int (r 2), .ref (ma 1), .ref (ad 1), .ref (ad 3), .ref (ma 2), .ref (ad 4), .ref (ad 7), .ref (ad 6)]
def fX7 (a : Nat) (r : Nat → Int32) : List Value := [.ref a, .int (r 1), .int (r 2), .int (r 3)]
def fX3 (ad ma : Nat → Nat) (r : Nat → Int32) : List Value := [.ref (ma 1), .ref (ma 2), .ref (ad 2), .int (r 3), .int (r 4)]
def fX1 (ad ma : Nat → Nat) (r : Nat → Int32) : List Value := [.ref (ad 5), .ref (ma 2), .int (r 2), .int (r 3), .int (r 4), .int (r 5), .int (r 6), .int (r 7)]
def hst_ (cs : Nat → ClassId) (ad ma : Nat → Nat) (q : Nat) (r : Nat → Int32) : va_E := match q with
  | 0 => .inr (9, fX9 ad ma r)
  | 3 => .inr (3, fX3 ad ma r)
  | 4 => .inr (1, fX1 ad ma r)
  | 5 => .inl (cs 0, 900, .inl r)
  | 6 => .inl (cs 3, 2, .inl r)
  | _ => .inl (cs 6, 2, .inr (.inr (.inr (.inr (fun i => some (ma (3 + i)))))))
/-- the plan of the machine stands at 1, the plan of the other machine at 2 -/
def hsh (cs : Nat → ClassId) (ad ma : Nat → Nat) : Sh := fun q r _ => if 1 ≤ q ∧ q < 3 then .inr (7, fX7 (ma q) r) else hst_ cs ad ma q r
theorem hs0 {cs : Nat → ClassId} {ad ma : Nat → Nat} (r : Nat → Int32) (t : Nat → Int64) : hsh cs ad ma 0 r t = .inr (9, fX9 ad ma r) := rfl
theorem hs3 {cs : Nat → ClassId} {ad ma : Nat → Nat} (r : Nat → Int32) (t : Nat → Int64) : hsh cs ad ma 3 r t = .inr (3, fX3 ad ma r) := rfl
theorem hs4 {cs : Nat → ClassId} {ad ma : Nat → Nat} (r : Nat → Int32) (t : Nat → Int64) : hsh cs ad ma 4 r t = .inr (1, fX1 ad ma r) := rfl
theorem hs5 {cs : Nat → ClassId} {ad ma : Nat → Nat} (r : Nat → Int32) (t : Nat → Int64) : hsh cs ad ma 5 r t = .inl (cs 0, 900, .inl r) := rfl
theorem hs6 {cs : Nat → ClassId} {ad ma : Nat → Nat} (r : Nat → Int32) (t : Nat → Int64) : hsh cs ad ma 6 r t = .inl (cs 3, 2, .inl r) := rfl
theorem hs7 {cs : Nat → ClassId} {ad ma : Nat → Nat} (r : Nat → Int32) (t : Nat → Int64) : hsh cs ad ma 7 r t = .inl (cs 6, 2, .inr (.inr (.inr (.inr (fun i => some (ma (3 + i))))))) := rfl
theorem hpl {cs : Nat → ClassId} {ad ma : Nat → Nat} {q : Nat} (h1 : 1 ≤ q) (h2 : q < 3) (r : Nat → Int32) (t : Nat → Int64) : hsh cs ad ma q r t = .inr (7, fX7 (ma q) r) := if_pos ⟨h1, h2⟩
theorem hplq {q : Nat} (h2 : q < 3) : q < 8 := by omega
