/-! PROPERTY: the best retries are 0 to 5 -/
theorem brr_l {N : Nat → Nat} (hN : ∀ t : Nat, t < 6 → N t < 1000) {m : MM} {w : Nat → Int32} (hm : R m w) (hI : Inv N 0 w) {T : Nat} (hT : Rn T (w 23)) : ∀ (d r n : Nat) (b : Nat) (x2 x3 : Int32) (h f : MM), r + d = 6 → d < n → b ≤ 5 → ∃ (v : Nat) (h' f' : MM), D_X9_bestRetries_14 m n (I b) x2 x3 (I r) h f = some (I v, h', f') ∧ v ≤ 5 ∧ HF h h' := by
  intro d
  induction d with
  | zero =>
    intro r n b x2 x3 h f hr hn hb
    obtain ⟨n, rfl⟩ : ∃ n0 : Nat, n = n0 + 1 := ⟨n - 1, by omega⟩
    have hr : r = 6 := by omega
    subst hr
    refine ⟨b, h, f, ?_, hb, HF.rf h⟩
    rw [D_X9_bestRetries_14, if_pos (show mst 7 < I 6 by decide)]
  | succ d ih =>
    intro r n b x2 x3 h f hr hn hb
    obtain ⟨n, rfl⟩ : ∃ n0 : Nat, n = n0 + 1 := ⟨n - 1, by omega⟩
    have hlt : ¬ mst 7 < I r := fun z => absurd ((I_lt (a := 5) (by omega) (by omega)).mp z) (by omega)
    obtain ⟨f0, c1, c2⟩ := copy_s hm f
    have hb7 := hm.r0.bd
    have k1 : R (si f0 25 7 (I r)) (upd w 7 (I r)) := by
      refine ⟨⟨c2.r0.wSet (by omega) _, fun a ha => ?_⟩, set_v c2.r0 c2.v (k := 7) (by omega) ?_ ?_⟩
      · show gi (si f0 25 7 (I r)) 50 a = upd w 7 (I r) (37 + a)
        rw [gi_si_ne (by omega), upd_ne (by omega)]
        exact c2.1.2 a ha
      · show (0 : Int) ≤ (I r).toInt
        rw [I_toInt (by omega)]
        omega
      · show (I r).toInt ≤ (5 : Int)
        rw [I_toInt (by omega)]
        omega
    have k2 : Inv N 0 (upd w 7 (I r)) := hI.fr' hb7 (fun i hi => upd_ne (by omega)) (fun i j h1 h2 => upd_ne (by omega)) (fun i j h1 h2 => upd_ne (by omega)) (fun i j h1 h2 => upd_ne (by omega))
    obtain ⟨o, q1, q2, q3⟩ := next_b k1 k1
    obtain ⟨k, m', f', w', h', o', r1, r2, r3, r4, r5, r6, r7, r8, r9, r10, r11, r12, r13⟩ := goOn_sq m 1000 0 FU N (si f0 25 7 (I r)) (si f0 25 7 (I r)) (upd w 7 (I r)) (si h 3 3 0) o T hN (by omega) (by show 1000 < 5000; omega) k1 k1 k2 (by rw [upd_ne (by omega)]; exact hT) q1 q2 (gi_si_eq _ _ _ _)
    have eg : D_X3_goOn h m (si f0 25 7 (I r)) = some (h', f') := by
      unfold D_X3_goOn
      rw [bnd_s, q3]
      exact r1
    have fh : HF h h' := (HF.si h _ (by omega)).tr r8
    have eb := bitCount_eq (gl f' 36 8)
    rw [D_X9_bestRetries_14, if_neg hlt]
    unfold D_X3_begin
    rw [c1, b1_s, b1_s, bnd_s, eg, b2_s, eb, b1_s]
    have go : ∀ (b : Nat) (x2 x3 : Int32), b ≤ 5 → ∃ (v : Nat) (h2 f2 : MM), D_X9_bestRetries_14 m n (I b) x2 x3 (I (r + 1)) h' f' = some (I v, h2, f2) ∧ v ≤ 5 ∧ HF h h2 := fun b x2 x3 hb => by
      obtain ⟨v, h2, f2, g1, g2, g3⟩ := ih (r + 1) n b x2 x3 h' f' (by omega) (by omega) hb
      exact ⟨v, h2, f2, g1, g2, fh.tr g3⟩
    by_cases a1 : x2 < I (cntP (tb (gl f' 36 8)) 64)
    · rw [if_pos a1, bnd_s, bnd_s, ixs1]
      exact go r _ _ (by omega)
    · rw [if_neg a1]
      by_cases a2 : I (cntP (tb (gl f' 36 8)) 64) = x2
      · rw [if_pos a2]
        by_cases a3 : x3 ≤ gi f' 24 13
        · rw [if_pos a3, bnd_s, ixs1]
          exact go b _ _ hb
        · rw [if_neg a3, bnd_s, bnd_s, ixs1]
          exact go r _ _ (by omega)
      · rw [if_neg a2, bnd_s, ixs1]
        exact go b _ _ hb
theorem f_retries {N : Nat → Nat} (hN : ∀ t : Nat, t < 6 → N t < 1000) {m : MM} {w : Nat → Int32} (hm : R m w) (hI : Inv N 0 w) {T : Nat} (hT : Rn T (w 23)) (h f : MM) : ∃ (v : Nat) (h' f' : MM), D_X9_bestRetries h m f = some (I v, h', f') ∧ v ≤ 5 ∧ HF h h' := by
  obtain ⟨v, h', f', r1, r2, r3⟩ := brr_l hN hm hI hT 6 0 FU 0 (-1) 0 h f (by omega) (by show 6 < 5000; omega) (by omega)
  have r1 : D_X9_bestRetries_14 m FU (0 : Int32) (-1 : Int32) (0 : Int32) (0 : Int32) h f = some (I v, h', f') := r1
  refine ⟨v, h', f', ?_, r2, r3⟩
  unfold D_X9_bestRetries
  rw [show lea 7 = 0 by decide, bnd_s]
  exact r1
