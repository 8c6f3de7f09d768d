/-! the law's text -/
theorem fits_nil {T : Nat → Nat} {p q : Nat} (h : q = p) : Fits T p [] q := h
theorem st_16 : strL 16 = 8 := by decide +kernel
def sp16 : List (Nat × (Nat → Nat)) := [Kp [109, 97, 99, 104, 105, 110, 101], Kp [32]]
theorem sp16_ok : Fits (fun j => (wl 16).getD j 0) 0 sp16 (strL 16) := ⟨by decide +kernel, by decide +kernel, fits_nil (by decide +kernel)⟩
theorem st_17 : strL 17 = 1 := by decide +kernel
def sp17 : List (Nat × (Nat → Nat)) := [Kp [32]]
theorem sp17_ok : Fits (fun j => (wl 17).getD j 0) 0 sp17 (strL 17) := ⟨by decide +kernel, fits_nil (by decide +kernel)⟩
theorem st_18 : strL 18 = 8 := by decide +kernel
def sp18 : List (Nat × (Nat → Nat)) := [Kp [59, 118, 105, 115, 105, 111, 110], Kp [32]]
theorem sp18_ok : Fits (fun j => (wl 18).getD j 0) 0 sp18 (strL 18) := ⟨by decide +kernel, by decide +kernel, fits_nil (by decide +kernel)⟩
theorem st_19 : strL 19 = 4 := by decide +kernel
def sp19 : List (Nat × (Nat → Nat)) := [Kp [32], Dp 10, Kp [32]]
theorem sp19_ok : Fits (fun j => (wl 19).getD j 0) 0 sp19 (strL 19) := ⟨by decide +kernel, by decide +kernel, by decide +kernel, fits_nil (by decide +kernel)⟩
theorem st_20 : strL 20 = 39 := by decide +kernel
def sp20 : List (Nat × (Nat → Nat)) := [Kp [59, 110, 111, 122, 122, 108, 101, 115], Kp [32], Dp 2, Kp [32], Dp 1, Kp [59, 107, 105, 110, 100], Kp [32], Dp 0, Kp [59, 107, 105, 110, 100], Kp [32], Dp 1, Kp [59, 107, 105, 110, 100], Kp [32], Dp 0, Kp [59, 115, 101, 101, 100], Kp [32]]
theorem sp20_ok : Fits (fun j => (wl 20).getD j 0) 0 sp20 (strL 20) := ⟨by decide +kernel, by decide +kernel, by decide +kernel, by decide +kernel, by decide +kernel, by decide +kernel, by decide +kernel, by decide +kernel, by decide +kernel, by decide +kernel, by decide +kernel, by decide +kernel, by decide +kernel, by decide +kernel, by decide +kernel, by decide +kernel, fits_nil (by decide +kernel)⟩
theorem st_21 : strL 21 = 8 := by decide +kernel
def sp21 : List (Nat × (Nat → Nat)) := [Kp [59, 102, 101, 101, 100, 101, 114], Kp [32]]
theorem sp21_ok : Fits (fun j => (wl 21).getD j 0) 0 sp21 (strL 21) := ⟨by decide +kernel, by decide +kernel, fits_nil (by decide +kernel)⟩
theorem st_22 : strL 22 = 6 := by decide +kernel
def sp22 : List (Nat × (Nat → Nat)) := [Kp [59, 115, 112, 111, 116], Kp [32]]
theorem sp22_ok : Fits (fun j => (wl 22).getD j 0) 0 sp22 (strL 22) := ⟨by decide +kernel, by decide +kernel, fits_nil (by decide +kernel)⟩
theorem st_23 : strL 23 = 7 := by decide +kernel
def sp23 : List (Nat × (Nat → Nat)) := [Kp [59, 97, 108, 97, 114, 109], Kp [32]]
theorem sp23_ok : Fits (fun j => (wl 23).getD j 0) 0 sp23 (strL 23) := ⟨by decide +kernel, by decide +kernel, fits_nil (by decide +kernel)⟩
theorem st_24 : strL 24 = 6 := by decide +kernel
def sp24 : List (Nat × (Nat → Nat)) := [Kp [59, 119, 101, 97, 114], Kp [32]]
theorem sp24_ok : Fits (fun j => (wl 24).getD j 0) 0 sp24 (strL 24) := ⟨by decide +kernel, by decide +kernel, fits_nil (by decide +kernel)⟩
theorem st_25 : strL 25 = 4 := by decide +kernel
def sp25 : List (Nat × (Nat → Nat)) := [Kp [32], Dp 30, Kp [32]]
theorem sp25_ok : Fits (fun j => (wl 25).getD j 0) 0 sp25 (strL 25) := ⟨by decide +kernel, by decide +kernel, by decide +kernel, fits_nil (by decide +kernel)⟩
theorem st_26 : strL 26 = 22 := by decide +kernel
def sp26 : List (Nat × (Nat → Nat)) := [Kp [59, 98, 101, 102, 111, 114, 101], Kp [32], Dp 0, Kp [32], Dp 4, Kp [59, 98, 101, 102, 111, 114, 101], Kp [32], Dp 4, Kp [32], Dp 2]
theorem sp26_ok : Fits (fun j => (wl 26).getD j 0) 0 sp26 (strL 26) := ⟨by decide +kernel, by decide +kernel, by decide +kernel, by decide +kernel, by decide +kernel, by decide +kernel, by decide +kernel, by decide +kernel, by decide +kernel, by decide +kernel, fits_nil (by decide +kernel)⟩
abbrev RT : Room := { frames := 6, cells := 136, slots := 200488, locals := 241 }
noncomputable def tB (D : va_G) : List (Nat × (Nat → Nat)) := sp16 ++ [Dp (1 + ((cv D 0) % 3))] ++ sp17 ++ [Dp (5 + ((cv D 1) % 40))] ++ sp18 ++ [Dp (50 + ((cv D 2) % 40))] ++ sp19 ++ [Dp ((cv D 3) % 3)] ++ sp20 ++ [Dp (cv D 4)]
noncomputable def foP (D : va_G) : Nat → List (Nat × (Nat → Nat))
  | 0 => []
  | k + 1 => foP D k ++ (sp21 ++ [Dp k] ++ sp17 ++ [Dp ((cv D (5 + k)) % 1000)] ++ sp17 ++ [Dp ((cv D (8 + k)) % 8)] ++ sp17 ++ [Dp ((cv D (11 + k)) % 40)])
noncomputable def soP (D : va_G) : Nat → List (Nat × (Nat → Nat))
  | 0 => []
  | k + 1 => soP D k ++ (sp22 ++ [Dp (k % 3)] ++ sp17 ++ [Dp ((cv D (14 + k)) % 1000)] ++ sp17 ++ [Dp ((cv D (20 + k)) % 1000)])
noncomputable def tZ (D : va_G) : List (Nat × (Nat → Nat)) := tB D ++ foP D 3 ++ soP D 6 ++ sp23 ++ [Dp ((cv D 26) % 4)] ++ sp24 ++ [Dp ((cv D 27) % 4)] ++ sp25 ++ [Dp ((cv D 28) % 30)]
noncomputable def txt (D : va_G) : List (Nat × (Nat → Nat)) := if cv D 29 % 2 = 0 then tZ D ++ sp26 else tZ D
theorem TS.le {cs : Nat → ClassId} {t N N' : Nat} {l : List (Nat × (Nat → Nat))} {w : va_W} (h : TS cs t l N w) (hn : N ≤ N') : TS cs t l N' w := by
  obtain ⟨q, n, f, h1, h2, h3⟩ := h
  exact ⟨q, n, f, h1, h2, by omega⟩
set_option maxHeartbeats 4000000 in
set_option maxRecDepth 100000 in
theorem w_tx3 (l : Launch) {p : Program} {e : Env} {s : State} {m0 : MethodId} {args : Array Value} {below : List Frame} {meth : Method} {c : Code} {D : va_G} {cs : Nat → ClassId} {A : Nat → Prop} {Q : State → Prop} (Fl0 : Fl p m0 c cL_text 3 s args RL D cs A) (hL : sL D ≤ 260) (hA : ∀ q : Nat, s.heap.size ≤ q → A q)
    (hk : ∀ (pc t cells slots : Nat) (H : Heap) (locs : List Loc) (ls : Array Slot) (wt : va_W), decode cL_text pc = .ok (.areturn, 1) → TS cs t (txt D) 370 wt → va_P D vwCl wt H → va_D A wt → va_S A s.heap H locs → cells ≤ 136 → slots ≤ 200488 → W p l e RT s m0 args below meth c H locs cells slots Q (F0 m0 pc ls [.ref t]))
    {H : Heap} {locs : List Loc} {ls : Array Slot} {t : Nat} {wt : va_W} (hW : TS cs t (tB D ++ foP D 3 ++ soP D 6) 316 wt) (hP : va_P D vwCl wt H) (hD : va_D A wt) (hS : va_S A s.heap H locs) (hl : lv_has ls 3 [(1, .ref t), (0, .ref (sB D))]) : W p l e RT s m0 args below meth c H locs 119 178418 Q (F0 m0 267 ls []) := by
  obtain ⟨hx, hb, hml, hown, hT, hK, hSS⟩ := id Fl0
  refine nwB Fl0 hP hD hS hA ⟨Nat.le_of_ble_eq_true rfl, Nat.le_of_ble_eq_true rfl⟩ ⟨by show _ ≤ 136; omega, by show _ ≤ 200488; omega⟩ hl.1 (Nat.le_of_ble_eq_true rfl) dL_text_267 dL_text_270 dL_text_271 (fun b H locs wb hB hP hD hS => ?_)
  refine lv_aload_n hx hb dL_text_274 rfl (lv_at hl 0 rfl) ?_
  refine apT Fl0 hB hW hP hD hS hA ⟨Nat.le_of_ble_eq_true rfl, Nat.le_of_ble_eq_true rfl⟩ ⟨by show _ ≤ 136; omega, by show _ ≤ 200488; omega⟩ (by omega) hl.1 (Nat.le_of_ble_eq_true rfl) dL_text_275 (fun H locs wb hB hP hD hS => ?_)
  refine rldc (x := ("PlacerHeadLaw", 66, ";alarm ", 23)) hx hb hown hK 23 rfl dL_text_278 ?_
  refine apC Fl0 hB (i := 23) (by omega) sp23 sp23_ok hP hD hS hA ⟨Nat.le_of_ble_eq_true rfl, Nat.le_of_ble_eq_true rfl⟩ ⟨by show _ ≤ 136; omega, by show _ ≤ 200488; omega⟩ (323) ⟨by rw [st_23]; omega, by omega⟩ hl.1 (Nat.le_of_ble_eq_true rfl) dL_text_280 (fun H locs wb hB hP hD hS => ?_)
  refine lv_aload_n hx hb dL_text_283 rfl (lv_at hl 1 rfl) ?_
  refine lv_bipush (v := I 26) hx hb dL_text_284 (by decide) ?_
  refine clN Fl0 hL (i := 26) (by omega) hP hD hS hA ⟨Nat.le_of_ble_eq_true rfl, Nat.le_of_ble_eq_true rfl⟩ ⟨by show _ ≤ 136; omega, by show _ ≤ 200488; omega⟩ hl.1 (Nat.le_of_ble_eq_true rfl) dL_text_286 (fun H locs hP hS => ?_)
  refine lv_iconst (v := I 4) hx hb dL_text_289 (by decide) ?_
  refine rmN hx hb (by have := (cv_s hL (i := 26) (by omega)).1; omega) (by omega) dL_text_290 ?_
  refine apN Fl0 hB (v := ((cv D 26) % 4)) (by have := (cv_s hL (i := 26) (by omega)).1; omega) hP hD hS hA ⟨Nat.le_of_ble_eq_true rfl, Nat.le_of_ble_eq_true rfl⟩ ⟨by show _ ≤ 136; omega, by show _ ≤ 200488; omega⟩ (328) ⟨by omega, by omega⟩ hl.1 (Nat.le_of_ble_eq_true rfl) dL_text_291 (fun H locs wb hB hP hD hS => ?_)
  refine rldc (x := ("PlacerHeadLaw", 68, ";wear ", 24)) hx hb hown hK 24 rfl dL_text_294 ?_
  refine apC Fl0 hB (i := 24) (by omega) sp24 sp24_ok hP hD hS hA ⟨Nat.le_of_ble_eq_true rfl, Nat.le_of_ble_eq_true rfl⟩ ⟨by show _ ≤ 136; omega, by show _ ≤ 200488; omega⟩ (334) ⟨by rw [st_24]; omega, by omega⟩ hl.1 (Nat.le_of_ble_eq_true rfl) dL_text_296 (fun H locs wb hB hP hD hS => ?_)
  refine lv_aload_n hx hb dL_text_299 rfl (lv_at hl 1 rfl) ?_
  refine lv_bipush (v := I 27) hx hb dL_text_300 (by decide) ?_
  refine clN Fl0 hL (i := 27) (by omega) hP hD hS hA ⟨Nat.le_of_ble_eq_true rfl, Nat.le_of_ble_eq_true rfl⟩ ⟨by show _ ≤ 136; omega, by show _ ≤ 200488; omega⟩ hl.1 (Nat.le_of_ble_eq_true rfl) dL_text_302 (fun H locs hP hS => ?_)
  refine lv_iconst (v := I 4) hx hb dL_text_305 (by decide) ?_
  refine rmN hx hb (by have := (cv_s hL (i := 27) (by omega)).1; omega) (by omega) dL_text_306 ?_
  refine apN Fl0 hB (v := ((cv D 27) % 4)) (by have := (cv_s hL (i := 27) (by omega)).1; omega) hP hD hS hA ⟨Nat.le_of_ble_eq_true rfl, Nat.le_of_ble_eq_true rfl⟩ ⟨by show _ ≤ 136; omega, by show _ ≤ 200488; omega⟩ (339) ⟨by omega, by omega⟩ hl.1 (Nat.le_of_ble_eq_true rfl) dL_text_307 (fun H locs wb hB hP hD hS => ?_)
  refine rldc (x := ("PlacerHeadLaw", 70, " 30 ", 25)) hx hb hown hK 25 rfl dL_text_310 ?_
  refine apC Fl0 hB (i := 25) (by omega) sp25 sp25_ok hP hD hS hA ⟨Nat.le_of_ble_eq_true rfl, Nat.le_of_ble_eq_true rfl⟩ ⟨by show _ ≤ 136; omega, by show _ ≤ 200488; omega⟩ (343) ⟨by rw [st_25]; omega, by omega⟩ hl.1 (Nat.le_of_ble_eq_true rfl) dL_text_312 (fun H locs wb hB hP hD hS => ?_)
  refine lv_aload_n hx hb dL_text_315 rfl (lv_at hl 1 rfl) ?_
  refine lv_bipush (v := I 28) hx hb dL_text_316 (by decide) ?_
  refine clN Fl0 hL (i := 28) (by omega) hP hD hS hA ⟨Nat.le_of_ble_eq_true rfl, Nat.le_of_ble_eq_true rfl⟩ ⟨by show _ ≤ 136; omega, by show _ ≤ 200488; omega⟩ hl.1 (Nat.le_of_ble_eq_true rfl) dL_text_318 (fun H locs hP hS => ?_)
  refine lv_bipush (v := I 30) hx hb dL_text_321 (by decide) ?_
  refine rmN hx hb (by have := (cv_s hL (i := 28) (by omega)).1; omega) (by omega) dL_text_323 ?_
  refine apN Fl0 hB (v := ((cv D 28) % 30)) (by have := (cv_s hL (i := 28) (by omega)).1; omega) hP hD hS hA ⟨Nat.le_of_ble_eq_true rfl, Nat.le_of_ble_eq_true rfl⟩ ⟨by show _ ≤ 136; omega, by show _ ≤ 200488; omega⟩ (348) ⟨by omega, by omega⟩ hl.1 (Nat.le_of_ble_eq_true rfl) dL_text_324 (fun H locs wb hB hP hD hS => ?_)
  refine toT Fl0 hB hP hD hS hA ⟨Nat.le_of_ble_eq_true rfl, Nat.le_of_ble_eq_true rfl⟩ ⟨by show _ ≤ 136; omega, by show _ ≤ 200488; omega⟩ hl.1 (Nat.le_of_ble_eq_true rfl) dL_text_327 (fun t H locs wt hW hP hD hS => ?_)
  refine lv_astore_n (lv' := [(1, .ref t), (0, .ref (sB D))]) hx hb dL_text_330 rfl hl (by decide) rfl (fun ls hl => ?_)
  have eW : (((((((tB D ++ foP D 3 ++ soP D 6) ++ sp23) ++ [Dp ((cv D 26) % 4)]) ++ sp24) ++ [Dp ((cv D 27) % 4)]) ++ sp25) ++ [Dp ((cv D 28) % 30)]) = tZ D := by unfold tZ; simp only [List.append_assoc]
  rw [eW] at hW
  refine lv_aload_n hx hb dL_text_331 rfl (lv_at hl 1 rfl) ?_
  refine lv_bipush (v := I 29) hx hb dL_text_332 (by decide) ?_
  refine clN Fl0 hL (i := 29) (by omega) hP hD hS hA ⟨Nat.le_of_ble_eq_true rfl, Nat.le_of_ble_eq_true rfl⟩ ⟨by show _ ≤ 136; omega, by show _ ≤ 200488; omega⟩ hl.1 (Nat.le_of_ble_eq_true rfl) dL_text_334 (fun H locs hP hS => ?_)
  refine lv_iconst (v := I 2) hx hb dL_text_337 (by decide) ?_
  refine rmN hx hb (by have := (cv_s hL (i := 29) (by omega)).1; omega) (by omega) dL_text_338 ?_
  refine lv_if_ne (tgt := 364) hx hb dL_text_339 (by decide) (fun c9 => ?_) (fun c9 => ?_)
  · refine lv_aload_n hx hb dL_text_364 rfl (lv_at hl 0 rfl) ?_
    have c8 : ¬ cv D 29 % 2 = 0 := fun z => c9 (by rw [z]; rfl)
    refine hk _ _ _ _ _ _ _ _ dL_text_365 ?_ hP hD hS (by omega) (by omega)
    unfold txt
    rw [if_neg c8]
    exact TS.le hW (by omega)
  · have c8 : cv D 29 % 2 = 0 := (I_ne0 (k := cv D 29 % 2) (by omega)).mp c9
    refine nwB Fl0 hP hD hS hA ⟨Nat.le_of_ble_eq_true rfl, Nat.le_of_ble_eq_true rfl⟩ ⟨by show _ ≤ 136; omega, by show _ ≤ 200488; omega⟩ hl.1 (Nat.le_of_ble_eq_true rfl) dL_text_342 dL_text_345 dL_text_346 (fun b H locs wb hB hP hD hS => ?_)
    refine lv_aload_n hx hb dL_text_349 rfl (lv_at hl 0 rfl) ?_
    refine apT Fl0 hB hW hP hD hS hA ⟨Nat.le_of_ble_eq_true rfl, Nat.le_of_ble_eq_true rfl⟩ ⟨by show _ ≤ 136; omega, by show _ ≤ 200488; omega⟩ (by omega) hl.1 (Nat.le_of_ble_eq_true rfl) dL_text_350 (fun H locs wb hB hP hD hS => ?_)
    refine rldc (x := ("PlacerHeadLaw", 72, ";before 0 4;before 4 2", 26)) hx hb hown hK 26 rfl dL_text_353 ?_
    refine apC Fl0 hB (i := 26) (by omega) sp26 sp26_ok hP hD hS hA ⟨Nat.le_of_ble_eq_true rfl, Nat.le_of_ble_eq_true rfl⟩ ⟨by show _ ≤ 136; omega, by show _ ≤ 200488; omega⟩ (370) ⟨by rw [st_26]; omega, by omega⟩ hl.1 (Nat.le_of_ble_eq_true rfl) dL_text_355 (fun H locs wb hB hP hD hS => ?_)
    refine toT Fl0 hB hP hD hS hA ⟨Nat.le_of_ble_eq_true rfl, Nat.le_of_ble_eq_true rfl⟩ ⟨by show _ ≤ 136; omega, by show _ ≤ 200488; omega⟩ hl.1 (Nat.le_of_ble_eq_true rfl) dL_text_358 (fun t H locs wt hW hP hD hS => ?_)
    refine lv_goto (tgt := 365) hx hb dL_text_361 (by decide) ?_
    refine hk _ _ _ _ _ _ _ _ dL_text_365 ?_ hP hD hS (by omega) (by omega)
    unfold txt
    rw [if_pos c8]
    exact hW

set_option maxHeartbeats 4000000 in
set_option maxRecDepth 100000 in
theorem w_tx2 (l : Launch) {p : Program} {e : Env} {s : State} {m0 : MethodId} {args : Array Value} {below : List Frame} {meth : Method} {c : Code} {D : va_G} {cs : Nat → ClassId} {A : Nat → Prop} {Q : State → Prop} (Fl0 : Fl p m0 c cL_text 3 s args RL D cs A) (hL : sL D ≤ 260) (hA : ∀ q : Nat, s.heap.size ≤ q → A q)
    (hk : ∀ (pc t cells slots : Nat) (H : Heap) (locs : List Loc) (ls : Array Slot) (wt : va_W), decode cL_text pc = .ok (.areturn, 1) → TS cs t (txt D) 370 wt → va_P D vwCl wt H → va_D A wt → va_S A s.heap H locs → cells ≤ 136 → slots ≤ 200488 → W p l e RT s m0 args below meth c H locs cells slots Q (F0 m0 pc ls [.ref t]))
    {H : Heap} {locs : List Loc} {ls : Array Slot} {t : Nat} {wt : va_W} (hW : TS cs t (tB D ++ foP D 3 ++ soP D 0) 178 wt) (hP : va_P D vwCl wt H) (hD : va_D A wt) (hS : va_S A s.heap H locs) (hl : lv_has ls 3 [(2, .int (I 0)), (1, .ref t), (0, .ref (sB D))]) : W p l e RT s m0 args below meth c H locs 53 82178 Q (F0 m0 189 ls []) := by
  obtain ⟨hx, hb, hml, hown, hT, hK, hSS⟩ := id Fl0
  have c_189 : ∀ (d k : Nat) (t : Nat) (wt : va_W) (H : Heap) (locs : List Loc) (ls : Array Slot), k + d = 6 → TS cs t (tB D ++ foP D 3 ++ soP D k) (23 * k + 178) wt → va_P D vwCl wt H → va_D A wt → va_S A s.heap H locs → lv_has ls 3 [(2, .int (I k)), (1, .ref t), (0, .ref (sB D))] → W p l e RT s m0 args below meth c H locs (53 + 11 * k) (82178 + 16040 * k) Q (F0 m0 189 ls []) := by
    intro d
    induction d with
    | zero =>
      intro k t wt H locs ls hkd hW hP hD hS hl
      have hk9 : k = 6 := by omega
      subst hk9
      refine lv_iload_n hx hb dL_text_189 rfl (lv_at hl 0 rfl) ?_
      refine lv_bipush (v := I 6) hx hb dL_text_190 (by decide) ?_
      refine lv_icmp_ge (tgt := 267) hx hb dL_text_192 (by decide) (fun _ => ?_) (fun c9 => absurd (Int32.le_refl _) c9)
      exact w_tx3 l Fl0 hL hA hk hW hP hD hS (lv_sub hl [1, 2] rfl)
    | succ d ih =>
      intro k t wt H locs ls hkd hW hP hD hS hl
      refine lv_iload_n hx hb dL_text_189 rfl (lv_at hl 0 rfl) ?_
      refine lv_bipush (v := I 6) hx hb dL_text_190 (by decide) ?_
      refine lv_icmp_ge (tgt := 267) hx hb dL_text_192 (by decide) (fun c9 => absurd c9 (leF (by omega) (by omega))) (fun _ => ?_)
      refine nwB Fl0 hP hD hS hA ⟨Nat.le_of_ble_eq_true rfl, Nat.le_of_ble_eq_true rfl⟩ ⟨by show _ ≤ 136; omega, by show _ ≤ 200488; omega⟩ hl.1 (Nat.le_of_ble_eq_true rfl) dL_text_195 dL_text_198 dL_text_199 (fun b H locs wb hB hP hD hS => ?_)
      refine lv_aload_n hx hb dL_text_202 rfl (lv_at hl 1 rfl) ?_
      refine apT Fl0 hB hW hP hD hS hA ⟨Nat.le_of_ble_eq_true rfl, Nat.le_of_ble_eq_true rfl⟩ ⟨by show _ ≤ 136; omega, by show _ ≤ 200488; omega⟩ (by omega) hl.1 (Nat.le_of_ble_eq_true rfl) dL_text_203 (fun H locs wb hB hP hD hS => ?_)
      refine rldc (x := ("PlacerHeadLaw", 64, ";spot ", 22)) hx hb hown hK 22 rfl dL_text_206 ?_
      refine apC Fl0 hB (i := 22) (by omega) sp22 sp22_ok hP hD hS hA ⟨Nat.le_of_ble_eq_true rfl, Nat.le_of_ble_eq_true rfl⟩ ⟨by show _ ≤ 136; omega, by show _ ≤ 200488; omega⟩ (23 * k + 184) ⟨by rw [st_22]; omega, by omega⟩ hl.1 (Nat.le_of_ble_eq_true rfl) dL_text_208 (fun H locs wb hB hP hD hS => ?_)
      refine lv_iload_n hx hb dL_text_211 rfl (lv_at hl 0 rfl) ?_
      refine lv_iconst (v := I 3) hx hb dL_text_212 (by decide) ?_
      refine rmN hx hb (by omega) (by omega) dL_text_213 ?_
      refine apN Fl0 hB (v := (k % 3)) (by omega) hP hD hS hA ⟨Nat.le_of_ble_eq_true rfl, Nat.le_of_ble_eq_true rfl⟩ ⟨by show _ ≤ 136; omega, by show _ ≤ 200488; omega⟩ (23 * k + 189) ⟨by omega, by omega⟩ hl.1 (Nat.le_of_ble_eq_true rfl) dL_text_214 (fun H locs wb hB hP hD hS => ?_)
      refine rldc (x := ("PlacerHeadLaw", 50, " ", 17)) hx hb hown hK 17 rfl dL_text_217 ?_
      refine apC Fl0 hB (i := 17) (by omega) sp17 sp17_ok hP hD hS hA ⟨Nat.le_of_ble_eq_true rfl, Nat.le_of_ble_eq_true rfl⟩ ⟨by show _ ≤ 136; omega, by show _ ≤ 200488; omega⟩ (23 * k + 190) ⟨by rw [st_17]; omega, by omega⟩ hl.1 (Nat.le_of_ble_eq_true rfl) dL_text_219 (fun H locs wb hB hP hD hS => ?_)
      refine lv_aload_n hx hb dL_text_222 rfl (lv_at hl 2 rfl) ?_
      refine lv_bipush (v := I 14) hx hb dL_text_223 (by decide) ?_
      refine lv_iload_n hx hb dL_text_225 rfl (lv_at hl 0 rfl) ?_
      refine adN hx hb dL_text_226 ?_
      refine clN Fl0 hL (i := (14 + k)) (by omega) hP hD hS hA ⟨Nat.le_of_ble_eq_true rfl, Nat.le_of_ble_eq_true rfl⟩ ⟨by show _ ≤ 136; omega, by show _ ≤ 200488; omega⟩ hl.1 (Nat.le_of_ble_eq_true rfl) dL_text_227 (fun H locs hP hS => ?_)
      refine lv_sipush (v := I 1000) hx hb dL_text_230 (by decide) ?_
      refine rmN hx hb (by have := (cv_s hL (i := (14 + k)) (by omega)).1; omega) (by omega) dL_text_233 ?_
      refine apN Fl0 hB (v := ((cv D (14 + k)) % 1000)) (by have := (cv_s hL (i := (14 + k)) (by omega)).1; omega) hP hD hS hA ⟨Nat.le_of_ble_eq_true rfl, Nat.le_of_ble_eq_true rfl⟩ ⟨by show _ ≤ 136; omega, by show _ ≤ 200488; omega⟩ (23 * k + 195) ⟨by omega, by omega⟩ hl.1 (Nat.le_of_ble_eq_true rfl) dL_text_234 (fun H locs wb hB hP hD hS => ?_)
      refine rldc (x := ("PlacerHeadLaw", 50, " ", 17)) hx hb hown hK 17 rfl dL_text_237 ?_
      refine apC Fl0 hB (i := 17) (by omega) sp17 sp17_ok hP hD hS hA ⟨Nat.le_of_ble_eq_true rfl, Nat.le_of_ble_eq_true rfl⟩ ⟨by show _ ≤ 136; omega, by show _ ≤ 200488; omega⟩ (23 * k + 196) ⟨by rw [st_17]; omega, by omega⟩ hl.1 (Nat.le_of_ble_eq_true rfl) dL_text_239 (fun H locs wb hB hP hD hS => ?_)
      refine lv_aload_n hx hb dL_text_242 rfl (lv_at hl 2 rfl) ?_
      refine lv_bipush (v := I 20) hx hb dL_text_243 (by decide) ?_
      refine lv_iload_n hx hb dL_text_245 rfl (lv_at hl 0 rfl) ?_
      refine adN hx hb dL_text_246 ?_
      refine clN Fl0 hL (i := (20 + k)) (by omega) hP hD hS hA ⟨Nat.le_of_ble_eq_true rfl, Nat.le_of_ble_eq_true rfl⟩ ⟨by show _ ≤ 136; omega, by show _ ≤ 200488; omega⟩ hl.1 (Nat.le_of_ble_eq_true rfl) dL_text_247 (fun H locs hP hS => ?_)
      refine lv_sipush (v := I 1000) hx hb dL_text_250 (by decide) ?_
      refine rmN hx hb (by have := (cv_s hL (i := (20 + k)) (by omega)).1; omega) (by omega) dL_text_253 ?_
      refine apN Fl0 hB (v := ((cv D (20 + k)) % 1000)) (by have := (cv_s hL (i := (20 + k)) (by omega)).1; omega) hP hD hS hA ⟨Nat.le_of_ble_eq_true rfl, Nat.le_of_ble_eq_true rfl⟩ ⟨by show _ ≤ 136; omega, by show _ ≤ 200488; omega⟩ (23 * k + 201) ⟨by omega, by omega⟩ hl.1 (Nat.le_of_ble_eq_true rfl) dL_text_254 (fun H locs wb hB hP hD hS => ?_)
      refine toT Fl0 hB hP hD hS hA ⟨Nat.le_of_ble_eq_true rfl, Nat.le_of_ble_eq_true rfl⟩ ⟨by show _ ≤ 136; omega, by show _ ≤ 200488; omega⟩ hl.1 (Nat.le_of_ble_eq_true rfl) dL_text_257 (fun t H locs wt hW hP hD hS => ?_)
      refine lv_astore_n (lv' := [(1, .ref t), (2, .int (I k)), (0, .ref (sB D))]) hx hb dL_text_260 rfl hl (by decide) rfl (fun ls hl => ?_)
      refine lv_iinc (v := I (k + 1)) (lv' := [(2, .int (I (k + 1))), (1, .ref t), (0, .ref (sB D))]) hx hb dL_text_261 hl (k := 1) rfl (I_add k 1) (by decide) rfl (fun ls hl => ?_)
      refine lv_goto (tgt := 189) hx hb dL_text_264 (by decide) ?_
      have eW : (((((((tB D ++ foP D 3 ++ soP D k) ++ sp22) ++ [Dp (k % 3)]) ++ sp17) ++ [Dp ((cv D (14 + k)) % 1000)]) ++ sp17) ++ [Dp ((cv D (20 + k)) % 1000)]) = (tB D ++ foP D 3 ++ soP D (k + 1)) := by
        simp only [soP, List.append_assoc]
      rw [eW] at hW
      exact W.widen (by omega) (by omega) (ih (k + 1) t wt _ _ _ (by omega) (hW.le (by omega)) hP hD hS hl)
  exact c_189 6 0 t wt _ _ _ (by omega) hW hP hD hS hl

set_option maxHeartbeats 4000000 in
set_option maxRecDepth 100000 in
theorem w_tx1 (l : Launch) {p : Program} {e : Env} {s : State} {m0 : MethodId} {args : Array Value} {below : List Frame} {meth : Method} {c : Code} {D : va_G} {cs : Nat → ClassId} {A : Nat → Prop} {Q : State → Prop} (Fl0 : Fl p m0 c cL_text 3 s args RL D cs A) (hL : sL D ≤ 260) (hA : ∀ q : Nat, s.heap.size ≤ q → A q)
    (hk : ∀ (pc t cells slots : Nat) (H : Heap) (locs : List Loc) (ls : Array Slot) (wt : va_W), decode cL_text pc = .ok (.areturn, 1) → TS cs t (txt D) 370 wt → va_P D vwCl wt H → va_D A wt → va_S A s.heap H locs → cells ≤ 136 → slots ≤ 200488 → W p l e RT s m0 args below meth c H locs cells slots Q (F0 m0 pc ls [.ref t]))
    {H : Heap} {locs : List Loc} {ls : Array Slot} {t : Nat} {wt : va_W} (hW : TS cs t (tB D ++ foP D 0) 85 wt) (hP : va_P D vwCl wt H) (hD : va_D A wt) (hS : va_S A s.heap H locs) (hl : lv_has ls 3 [(2, .int (I 0)), (1, .ref t), (0, .ref (sB D))]) : W p l e RT s m0 args below meth c H locs 14 22046 Q (F0 m0 95 ls []) := by
  obtain ⟨hx, hb, hml, hown, hT, hK, hSS⟩ := id Fl0
  have c_95 : ∀ (d k : Nat) (t : Nat) (wt : va_W) (H : Heap) (locs : List Loc) (ls : Array Slot), k + d = 3 → TS cs t (tB D ++ foP D k) (31 * k + 85) wt → va_P D vwCl wt H → va_D A wt → va_S A s.heap H locs → lv_has ls 3 [(2, .int (I k)), (1, .ref t), (0, .ref (sB D))] → W p l e RT s m0 args below meth c H locs (14 + 13 * k) (22046 + 20044 * k) Q (F0 m0 95 ls []) := by
    intro d
    induction d with
    | zero =>
      intro k t wt H locs ls hkd hW hP hD hS hl
      have hk9 : k = 3 := by omega
      subst hk9
      refine lv_iload_n hx hb dL_text_95 rfl (lv_at hl 0 rfl) ?_
      refine lv_iconst (v := I 3) hx hb dL_text_96 (by decide) ?_
      refine lv_icmp_ge (tgt := 187) hx hb dL_text_97 (by decide) (fun _ => ?_) (fun c9 => absurd (Int32.le_refl _) c9)
      refine lv_iconst (v := I 0) hx hb dL_text_187 (by decide) ?_
      refine lv_istore_n (lv' := [(2, .int (I 0)), (1, .ref t), (0, .ref (sB D))]) hx hb dL_text_188 rfl hl (by decide) rfl (fun ls hl => ?_)
      have eW : tB D ++ foP D 3 = tB D ++ foP D 3 ++ soP D 0 := (List.append_nil _).symm
      rw [eW] at hW
      exact w_tx2 l Fl0 hL hA hk hW hP hD hS hl
    | succ d ih =>
      intro k t wt H locs ls hkd hW hP hD hS hl
      refine lv_iload_n hx hb dL_text_95 rfl (lv_at hl 0 rfl) ?_
      refine lv_iconst (v := I 3) hx hb dL_text_96 (by decide) ?_
      refine lv_icmp_ge (tgt := 187) hx hb dL_text_97 (by decide) (fun c9 => absurd c9 (leF (by omega) (by omega))) (fun _ => ?_)
      refine nwB Fl0 hP hD hS hA ⟨Nat.le_of_ble_eq_true rfl, Nat.le_of_ble_eq_true rfl⟩ ⟨by show _ ≤ 136; omega, by show _ ≤ 200488; omega⟩ hl.1 (Nat.le_of_ble_eq_true rfl) dL_text_100 dL_text_103 dL_text_104 (fun b H locs wb hB hP hD hS => ?_)
      refine lv_aload_n hx hb dL_text_107 rfl (lv_at hl 1 rfl) ?_
      refine apT Fl0 hB hW hP hD hS hA ⟨Nat.le_of_ble_eq_true rfl, Nat.le_of_ble_eq_true rfl⟩ ⟨by show _ ≤ 136; omega, by show _ ≤ 200488; omega⟩ (by omega) hl.1 (Nat.le_of_ble_eq_true rfl) dL_text_108 (fun H locs wb hB hP hD hS => ?_)
      refine rldc (x := ("PlacerHeadLaw", 62, ";feeder ", 21)) hx hb hown hK 21 rfl dL_text_111 ?_
      refine apC Fl0 hB (i := 21) (by omega) sp21 sp21_ok hP hD hS hA ⟨Nat.le_of_ble_eq_true rfl, Nat.le_of_ble_eq_true rfl⟩ ⟨by show _ ≤ 136; omega, by show _ ≤ 200488; omega⟩ (31 * k + 93) ⟨by rw [st_21]; omega, by omega⟩ hl.1 (Nat.le_of_ble_eq_true rfl) dL_text_113 (fun H locs wb hB hP hD hS => ?_)
      refine lv_iload_n hx hb dL_text_116 rfl (lv_at hl 0 rfl) ?_
      refine apN Fl0 hB (v := k) (by omega) hP hD hS hA ⟨Nat.le_of_ble_eq_true rfl, Nat.le_of_ble_eq_true rfl⟩ ⟨by show _ ≤ 136; omega, by show _ ≤ 200488; omega⟩ (31 * k + 98) ⟨by omega, by omega⟩ hl.1 (Nat.le_of_ble_eq_true rfl) dL_text_117 (fun H locs wb hB hP hD hS => ?_)
      refine rldc (x := ("PlacerHeadLaw", 50, " ", 17)) hx hb hown hK 17 rfl dL_text_120 ?_
      refine apC Fl0 hB (i := 17) (by omega) sp17 sp17_ok hP hD hS hA ⟨Nat.le_of_ble_eq_true rfl, Nat.le_of_ble_eq_true rfl⟩ ⟨by show _ ≤ 136; omega, by show _ ≤ 200488; omega⟩ (31 * k + 99) ⟨by rw [st_17]; omega, by omega⟩ hl.1 (Nat.le_of_ble_eq_true rfl) dL_text_122 (fun H locs wb hB hP hD hS => ?_)
      refine lv_aload_n hx hb dL_text_125 rfl (lv_at hl 2 rfl) ?_
      refine lv_iconst (v := I 5) hx hb dL_text_126 (by decide) ?_
      refine lv_iload_n hx hb dL_text_127 rfl (lv_at hl 0 rfl) ?_
      refine adN hx hb dL_text_128 ?_
      refine clN Fl0 hL (i := (5 + k)) (by omega) hP hD hS hA ⟨Nat.le_of_ble_eq_true rfl, Nat.le_of_ble_eq_true rfl⟩ ⟨by show _ ≤ 136; omega, by show _ ≤ 200488; omega⟩ hl.1 (Nat.le_of_ble_eq_true rfl) dL_text_129 (fun H locs hP hS => ?_)
      refine lv_sipush (v := I 1000) hx hb dL_text_132 (by decide) ?_
      refine rmN hx hb (by have := (cv_s hL (i := (5 + k)) (by omega)).1; omega) (by omega) dL_text_135 ?_
      refine apN Fl0 hB (v := ((cv D (5 + k)) % 1000)) (by have := (cv_s hL (i := (5 + k)) (by omega)).1; omega) hP hD hS hA ⟨Nat.le_of_ble_eq_true rfl, Nat.le_of_ble_eq_true rfl⟩ ⟨by show _ ≤ 136; omega, by show _ ≤ 200488; omega⟩ (31 * k + 104) ⟨by omega, by omega⟩ hl.1 (Nat.le_of_ble_eq_true rfl) dL_text_136 (fun H locs wb hB hP hD hS => ?_)
      refine rldc (x := ("PlacerHeadLaw", 50, " ", 17)) hx hb hown hK 17 rfl dL_text_139 ?_
      refine apC Fl0 hB (i := 17) (by omega) sp17 sp17_ok hP hD hS hA ⟨Nat.le_of_ble_eq_true rfl, Nat.le_of_ble_eq_true rfl⟩ ⟨by show _ ≤ 136; omega, by show _ ≤ 200488; omega⟩ (31 * k + 105) ⟨by rw [st_17]; omega, by omega⟩ hl.1 (Nat.le_of_ble_eq_true rfl) dL_text_141 (fun H locs wb hB hP hD hS => ?_)
      refine lv_aload_n hx hb dL_text_144 rfl (lv_at hl 2 rfl) ?_
      refine lv_bipush (v := I 8) hx hb dL_text_145 (by decide) ?_
      refine lv_iload_n hx hb dL_text_147 rfl (lv_at hl 0 rfl) ?_
      refine adN hx hb dL_text_148 ?_
      refine clN Fl0 hL (i := (8 + k)) (by omega) hP hD hS hA ⟨Nat.le_of_ble_eq_true rfl, Nat.le_of_ble_eq_true rfl⟩ ⟨by show _ ≤ 136; omega, by show _ ≤ 200488; omega⟩ hl.1 (Nat.le_of_ble_eq_true rfl) dL_text_149 (fun H locs hP hS => ?_)
      refine lv_bipush (v := I 8) hx hb dL_text_152 (by decide) ?_
      refine rmN hx hb (by have := (cv_s hL (i := (8 + k)) (by omega)).1; omega) (by omega) dL_text_154 ?_
      refine apN Fl0 hB (v := ((cv D (8 + k)) % 8)) (by have := (cv_s hL (i := (8 + k)) (by omega)).1; omega) hP hD hS hA ⟨Nat.le_of_ble_eq_true rfl, Nat.le_of_ble_eq_true rfl⟩ ⟨by show _ ≤ 136; omega, by show _ ≤ 200488; omega⟩ (31 * k + 110) ⟨by omega, by omega⟩ hl.1 (Nat.le_of_ble_eq_true rfl) dL_text_155 (fun H locs wb hB hP hD hS => ?_)
      refine rldc (x := ("PlacerHeadLaw", 50, " ", 17)) hx hb hown hK 17 rfl dL_text_158 ?_
      refine apC Fl0 hB (i := 17) (by omega) sp17 sp17_ok hP hD hS hA ⟨Nat.le_of_ble_eq_true rfl, Nat.le_of_ble_eq_true rfl⟩ ⟨by show _ ≤ 136; omega, by show _ ≤ 200488; omega⟩ (31 * k + 111) ⟨by rw [st_17]; omega, by omega⟩ hl.1 (Nat.le_of_ble_eq_true rfl) dL_text_160 (fun H locs wb hB hP hD hS => ?_)
      refine lv_aload_n hx hb dL_text_163 rfl (lv_at hl 2 rfl) ?_
      refine lv_bipush (v := I 11) hx hb dL_text_164 (by decide) ?_
      refine lv_iload_n hx hb dL_text_166 rfl (lv_at hl 0 rfl) ?_
      refine adN hx hb dL_text_167 ?_
      refine clN Fl0 hL (i := (11 + k)) (by omega) hP hD hS hA ⟨Nat.le_of_ble_eq_true rfl, Nat.le_of_ble_eq_true rfl⟩ ⟨by show _ ≤ 136; omega, by show _ ≤ 200488; omega⟩ hl.1 (Nat.le_of_ble_eq_true rfl) dL_text_168 (fun H locs hP hS => ?_)
      refine lv_bipush (v := I 40) hx hb dL_text_171 (by decide) ?_
      refine rmN hx hb (by have := (cv_s hL (i := (11 + k)) (by omega)).1; omega) (by omega) dL_text_173 ?_
      refine apN Fl0 hB (v := ((cv D (11 + k)) % 40)) (by have := (cv_s hL (i := (11 + k)) (by omega)).1; omega) hP hD hS hA ⟨Nat.le_of_ble_eq_true rfl, Nat.le_of_ble_eq_true rfl⟩ ⟨by show _ ≤ 136; omega, by show _ ≤ 200488; omega⟩ (31 * k + 116) ⟨by omega, by omega⟩ hl.1 (Nat.le_of_ble_eq_true rfl) dL_text_174 (fun H locs wb hB hP hD hS => ?_)
      refine toT Fl0 hB hP hD hS hA ⟨Nat.le_of_ble_eq_true rfl, Nat.le_of_ble_eq_true rfl⟩ ⟨by show _ ≤ 136; omega, by show _ ≤ 200488; omega⟩ hl.1 (Nat.le_of_ble_eq_true rfl) dL_text_177 (fun t H locs wt hW hP hD hS => ?_)
      refine lv_astore_n (lv' := [(1, .ref t), (2, .int (I k)), (0, .ref (sB D))]) hx hb dL_text_180 rfl hl (by decide) rfl (fun ls hl => ?_)
      refine lv_iinc (v := I (k + 1)) (lv' := [(2, .int (I (k + 1))), (1, .ref t), (0, .ref (sB D))]) hx hb dL_text_181 hl (k := 1) rfl (I_add k 1) (by decide) rfl (fun ls hl => ?_)
      refine lv_goto (tgt := 95) hx hb dL_text_184 (by decide) ?_
      have eW : (((((((((tB D ++ foP D k) ++ sp21) ++ [Dp k]) ++ sp17) ++ [Dp ((cv D (5 + k)) % 1000)]) ++ sp17) ++ [Dp ((cv D (8 + k)) % 8)]) ++ sp17) ++ [Dp ((cv D (11 + k)) % 40)]) = (tB D ++ foP D (k + 1)) := by
        simp only [foP, List.append_assoc]
      rw [eW] at hW
      exact W.widen (by omega) (by omega) (ih (k + 1) t wt _ _ _ (by omega) (hW.le (by omega)) hP hD hS hl)
  exact c_95 3 0 t wt _ _ _ (by omega) hW hP hD hS hl

set_option maxHeartbeats 4000000 in
set_option maxRecDepth 100000 in
theorem c_L_text (l : Launch) {D : va_G} {cs : Nat → ClassId} (hL : sL D ≤ 260) : CtG l yL_text cL_text 3 (some (.object "java/lang/String")) 6 241 136 200488 D cs X0 [.ref (sB D)] [] (fun rv w1 => ∃ t : Nat, rv = some (.ref t) ∧ TS cs t (txt D) 370 w1) := by
  refine CtG.ofW (by decide) (Nat.le_of_ble_eq_true rfl) ?_
  intro p e s m0 below meth c A Q ls args Fl0 hr hlocks hP hD hXs hS hA hl hmn hret
  obtain ⟨hx, hb, hml, hown, hT, hK, hSS⟩ := id Fl0
  have hown : s.vm.findClass RL = some m0.cls := hown
  have hl : lv_has ls 3 [(0, .ref (sB D))] := hl
  refine nwB Fl0 hP hD hS hA ⟨Nat.le_of_ble_eq_true rfl, Nat.le_of_ble_eq_true rfl⟩ ⟨by show _ ≤ 136; omega, by show _ ≤ 200488; omega⟩ hl.1 (Nat.le_of_ble_eq_true rfl) dL_text_0 dL_text_3 dL_text_4 (fun b H locs wb hB hP hD hS => ?_)
  refine rldc (x := ("PlacerHeadLaw", 36, "machine ", 16)) hx hb hown hK 16 rfl dL_text_7 ?_
  refine apC Fl0 hB (i := 16) (by omega) sp16 sp16_ok hP hD hS hA ⟨Nat.le_of_ble_eq_true rfl, Nat.le_of_ble_eq_true rfl⟩ ⟨by show _ ≤ 136; omega, by show _ ≤ 200488; omega⟩ (8) ⟨by rw [st_16]; omega, by omega⟩ hl.1 (Nat.le_of_ble_eq_true rfl) dL_text_9 (fun H locs wb hB hP hD hS => ?_)
  refine lv_iconst (v := I 1) hx hb dL_text_12 (by decide) ?_
  refine lv_aload_n hx hb dL_text_13 rfl (lv_at hl 0 rfl) ?_
  refine lv_iconst (v := I 0) hx hb dL_text_14 (by decide) ?_
  refine clN Fl0 hL (i := 0) (by omega) hP hD hS hA ⟨Nat.le_of_ble_eq_true rfl, Nat.le_of_ble_eq_true rfl⟩ ⟨by show _ ≤ 136; omega, by show _ ≤ 200488; omega⟩ hl.1 (Nat.le_of_ble_eq_true rfl) dL_text_15 (fun H locs hP hS => ?_)
  refine lv_iconst (v := I 3) hx hb dL_text_18 (by decide) ?_
  refine rmN hx hb (by have := (cv_s hL (i := 0) (by omega)).1; omega) (by omega) dL_text_19 ?_
  refine adN hx hb dL_text_20 ?_
  refine apN Fl0 hB (v := (1 + ((cv D 0) % 3))) (by have := (cv_s hL (i := 0) (by omega)).1; omega) hP hD hS hA ⟨Nat.le_of_ble_eq_true rfl, Nat.le_of_ble_eq_true rfl⟩ ⟨by show _ ≤ 136; omega, by show _ ≤ 200488; omega⟩ (13) ⟨by omega, by omega⟩ hl.1 (Nat.le_of_ble_eq_true rfl) dL_text_21 (fun H locs wb hB hP hD hS => ?_)
  refine rldc (x := ("PlacerHeadLaw", 50, " ", 17)) hx hb hown hK 17 rfl dL_text_24 ?_
  refine apC Fl0 hB (i := 17) (by omega) sp17 sp17_ok hP hD hS hA ⟨Nat.le_of_ble_eq_true rfl, Nat.le_of_ble_eq_true rfl⟩ ⟨by show _ ≤ 136; omega, by show _ ≤ 200488; omega⟩ (14) ⟨by rw [st_17]; omega, by omega⟩ hl.1 (Nat.le_of_ble_eq_true rfl) dL_text_26 (fun H locs wb hB hP hD hS => ?_)
  refine lv_iconst (v := I 5) hx hb dL_text_29 (by decide) ?_
  refine lv_aload_n hx hb dL_text_30 rfl (lv_at hl 0 rfl) ?_
  refine lv_iconst (v := I 1) hx hb dL_text_31 (by decide) ?_
  refine clN Fl0 hL (i := 1) (by omega) hP hD hS hA ⟨Nat.le_of_ble_eq_true rfl, Nat.le_of_ble_eq_true rfl⟩ ⟨by show _ ≤ 136; omega, by show _ ≤ 200488; omega⟩ hl.1 (Nat.le_of_ble_eq_true rfl) dL_text_32 (fun H locs hP hS => ?_)
  refine lv_bipush (v := I 40) hx hb dL_text_35 (by decide) ?_
  refine rmN hx hb (by have := (cv_s hL (i := 1) (by omega)).1; omega) (by omega) dL_text_37 ?_
  refine adN hx hb dL_text_38 ?_
  refine apN Fl0 hB (v := (5 + ((cv D 1) % 40))) (by have := (cv_s hL (i := 1) (by omega)).1; omega) hP hD hS hA ⟨Nat.le_of_ble_eq_true rfl, Nat.le_of_ble_eq_true rfl⟩ ⟨by show _ ≤ 136; omega, by show _ ≤ 200488; omega⟩ (19) ⟨by omega, by omega⟩ hl.1 (Nat.le_of_ble_eq_true rfl) dL_text_39 (fun H locs wb hB hP hD hS => ?_)
  refine rldc (x := ("PlacerHeadLaw", 52, ";vision ", 18)) hx hb hown hK 18 rfl dL_text_42 ?_
  refine apC Fl0 hB (i := 18) (by omega) sp18 sp18_ok hP hD hS hA ⟨Nat.le_of_ble_eq_true rfl, Nat.le_of_ble_eq_true rfl⟩ ⟨by show _ ≤ 136; omega, by show _ ≤ 200488; omega⟩ (27) ⟨by rw [st_18]; omega, by omega⟩ hl.1 (Nat.le_of_ble_eq_true rfl) dL_text_44 (fun H locs wb hB hP hD hS => ?_)
  refine lv_bipush (v := I 50) hx hb dL_text_47 (by decide) ?_
  refine lv_aload_n hx hb dL_text_49 rfl (lv_at hl 0 rfl) ?_
  refine lv_iconst (v := I 2) hx hb dL_text_50 (by decide) ?_
  refine clN Fl0 hL (i := 2) (by omega) hP hD hS hA ⟨Nat.le_of_ble_eq_true rfl, Nat.le_of_ble_eq_true rfl⟩ ⟨by show _ ≤ 136; omega, by show _ ≤ 200488; omega⟩ hl.1 (Nat.le_of_ble_eq_true rfl) dL_text_51 (fun H locs hP hS => ?_)
  refine lv_bipush (v := I 40) hx hb dL_text_54 (by decide) ?_
  refine rmN hx hb (by have := (cv_s hL (i := 2) (by omega)).1; omega) (by omega) dL_text_56 ?_
  refine adN hx hb dL_text_57 ?_
  refine apN Fl0 hB (v := (50 + ((cv D 2) % 40))) (by have := (cv_s hL (i := 2) (by omega)).1; omega) hP hD hS hA ⟨Nat.le_of_ble_eq_true rfl, Nat.le_of_ble_eq_true rfl⟩ ⟨by show _ ≤ 136; omega, by show _ ≤ 200488; omega⟩ (32) ⟨by omega, by omega⟩ hl.1 (Nat.le_of_ble_eq_true rfl) dL_text_58 (fun H locs wb hB hP hD hS => ?_)
  refine rldc (x := ("PlacerHeadLaw", 54, " 10 ", 19)) hx hb hown hK 19 rfl dL_text_61 ?_
  refine apC Fl0 hB (i := 19) (by omega) sp19 sp19_ok hP hD hS hA ⟨Nat.le_of_ble_eq_true rfl, Nat.le_of_ble_eq_true rfl⟩ ⟨by show _ ≤ 136; omega, by show _ ≤ 200488; omega⟩ (36) ⟨by rw [st_19]; omega, by omega⟩ hl.1 (Nat.le_of_ble_eq_true rfl) dL_text_63 (fun H locs wb hB hP hD hS => ?_)
  refine lv_aload_n hx hb dL_text_66 rfl (lv_at hl 0 rfl) ?_
  refine lv_iconst (v := I 3) hx hb dL_text_67 (by decide) ?_
  refine clN Fl0 hL (i := 3) (by omega) hP hD hS hA ⟨Nat.le_of_ble_eq_true rfl, Nat.le_of_ble_eq_true rfl⟩ ⟨by show _ ≤ 136; omega, by show _ ≤ 200488; omega⟩ hl.1 (Nat.le_of_ble_eq_true rfl) dL_text_68 (fun H locs hP hS => ?_)
  refine lv_iconst (v := I 3) hx hb dL_text_71 (by decide) ?_
  refine rmN hx hb (by have := (cv_s hL (i := 3) (by omega)).1; omega) (by omega) dL_text_72 ?_
  refine apN Fl0 hB (v := ((cv D 3) % 3)) (by have := (cv_s hL (i := 3) (by omega)).1; omega) hP hD hS hA ⟨Nat.le_of_ble_eq_true rfl, Nat.le_of_ble_eq_true rfl⟩ ⟨by show _ ≤ 136; omega, by show _ ≤ 200488; omega⟩ (41) ⟨by omega, by omega⟩ hl.1 (Nat.le_of_ble_eq_true rfl) dL_text_73 (fun H locs wb hB hP hD hS => ?_)
  refine rldc (x := ("PlacerHeadLaw", 56, ";nozzles 2 1;kind 0;kind 1;kind 0;seed ", 20)) hx hb hown hK 20 rfl dL_text_76 ?_
  refine apC Fl0 hB (i := 20) (by omega) sp20 sp20_ok hP hD hS hA ⟨Nat.le_of_ble_eq_true rfl, Nat.le_of_ble_eq_true rfl⟩ ⟨by show _ ≤ 136; omega, by show _ ≤ 200488; omega⟩ (80) ⟨by rw [st_20]; omega, by omega⟩ hl.1 (Nat.le_of_ble_eq_true rfl) dL_text_78 (fun H locs wb hB hP hD hS => ?_)
  refine lv_aload_n hx hb dL_text_81 rfl (lv_at hl 0 rfl) ?_
  refine lv_iconst (v := I 4) hx hb dL_text_82 (by decide) ?_
  refine clN Fl0 hL (i := 4) (by omega) hP hD hS hA ⟨Nat.le_of_ble_eq_true rfl, Nat.le_of_ble_eq_true rfl⟩ ⟨by show _ ≤ 136; omega, by show _ ≤ 200488; omega⟩ hl.1 (Nat.le_of_ble_eq_true rfl) dL_text_83 (fun H locs hP hS => ?_)
  refine apN Fl0 hB (v := (cv D 4)) (by have := (cv_s hL (i := 4) (by omega)).1; omega) hP hD hS hA ⟨Nat.le_of_ble_eq_true rfl, Nat.le_of_ble_eq_true rfl⟩ ⟨by show _ ≤ 136; omega, by show _ ≤ 200488; omega⟩ (85) ⟨by omega, by omega⟩ hl.1 (Nat.le_of_ble_eq_true rfl) dL_text_86 (fun H locs wb hB hP hD hS => ?_)
  refine toT Fl0 hB hP hD hS hA ⟨Nat.le_of_ble_eq_true rfl, Nat.le_of_ble_eq_true rfl⟩ ⟨by show _ ≤ 136; omega, by show _ ≤ 200488; omega⟩ hl.1 (Nat.le_of_ble_eq_true rfl) dL_text_89 (fun t H locs wt hW hP hD hS => ?_)
  refine lv_astore_n (lv' := [(1, .ref t), (0, .ref (sB D))]) hx hb dL_text_92 rfl hl (by decide) rfl (fun ls hl => ?_)
  have eW : (((((((((([] ++ sp16) ++ [Dp (1 + ((cv D 0) % 3))]) ++ sp17) ++ [Dp (5 + ((cv D 1) % 40))]) ++ sp18) ++ [Dp (50 + ((cv D 2) % 40))]) ++ sp19) ++ [Dp ((cv D 3) % 3)]) ++ sp20) ++ [Dp (cv D 4)]) = tB D ++ foP D 0 := by unfold tB foP; simp only [List.append_assoc, List.nil_append, List.append_nil]
  rw [eW] at hW
  refine lv_iconst (v := I 0) hx hb dL_text_93 (by decide) ?_
  refine lv_istore_n (lv' := [(2, .int (I 0)), (1, .ref t), (0, .ref (sB D))]) hx hb dL_text_94 rfl hl (by decide) rfl (fun ls hl => ?_)
  refine w_tx1 l Fl0 hL hA (fun pc t cells slots H locs ls wt h1 h2 h3 h4 h5 h6 h7 => ?_) hW hP hD hS hl
  exact hret _ _ _ _ _ _ _ ⟨t, rfl, h2⟩ h3 h4 h5 h6 h7 (fun Qc hq => W.aret hx hb hr (Or.inl ⟨_, rfl⟩) (Or.inr ⟨_, rfl⟩) hq h5.2.2 h1 hlocks)

