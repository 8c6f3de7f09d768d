/-! PURE: pairs set and dropped -/
theorem php : ∀ (n : Nat) (f : Nat → Nat), (∀ i : Nat, i < n → f i < n) → (∀ i j : Nat, i < n → j < n → f i = f j → i = j) → ∀ j : Nat, j < n → ∃ i : Nat, i < n ∧ f i = j := by
  intro n
  induction n with
  | zero => intro f _ _ j hj; omega
  | succ n ih =>
    intro f hf hi j hj
    by_cases hz : ∃ i0 : Nat, i0 < n ∧ f i0 = n
    · obtain ⟨i0, h0, e0⟩ := hz
      have ha : f n < n := by
        have h1 := hf n (by omega)
        have h2 : f n ≠ n := fun z => by
          have := hi n i0 (by omega) (by omega) (z.trans e0.symm)
          omega
        omega
      by_cases hjn : j = n
      · exact ⟨i0, by omega, e0.trans hjn.symm⟩
      · obtain ⟨i, hi1, hi2⟩ := ih (fun i => if f i = n then f n else f i) (fun i hi1 => by
          show (if f i = n then f n else f i) < n
          by_cases c : f i = n
          · rw [if_pos c]; exact ha
          · rw [if_neg c]
            have := hf i (by omega)
            omega) (fun i k hi1 hk1 e => by
          have e : (if f i = n then f n else f i) = (if f k = n then f n else f k) := e
          by_cases c : f i = n
          · by_cases d : f k = n
            · exact hi i k (by omega) (by omega) (c.trans d.symm)
            · rw [if_pos c, if_neg d] at e
              have := hi n k (by omega) (by omega) e
              omega
          · by_cases d : f k = n
            · rw [if_neg c, if_pos d] at e
              have := hi i n (by omega) (by omega) e
              omega
            · rw [if_neg c, if_neg d] at e
              exact hi i k (by omega) (by omega) e) j (by omega)
        have hi2 : (if f i = n then f n else f i) = j := hi2
        by_cases c : f i = n
        · rw [if_pos c] at hi2
          exact ⟨n, by omega, hi2⟩
        · rw [if_neg c] at hi2
          exact ⟨i, by omega, hi2⟩
    · have hl : ∀ i : Nat, i < n → f i < n := fun i hi1 => by
        have h1 := hf i (by omega)
        have h2 : f i ≠ n := fun z => hz ⟨i, hi1, z⟩
        omega
      have q := ih f hl (fun i k h1 h2 e => hi i k (by omega) (by omega) e)
      by_cases hn : f n = n
      · by_cases hjn : j = n
        · exact ⟨n, by omega, hn.trans hjn.symm⟩
        · obtain ⟨i, a, b⟩ := q j (by omega)
          exact ⟨i, by omega, b⟩
      · obtain ⟨i, a, b⟩ := q (f n) (by have := hf n (by omega); omega)
        have := hi i n (by omega) (by omega) b
        omega
theorem R0.pd {m : MM} {w : Nat → Int32} (h : R0 m w) : ∀ i j : Nat, i < nQ w → j < nQ w → w (600 + 2 * i) = w (600 + 2 * j) → w (601 + 2 * i) = w (601 + 2 * j) → i = j := by
  obtain ⟨p1, p2⟩ := h.pr
  have hf : ∀ i : Nat, ∃ j : Nat, i < nQ w → (j < nQ w ∧ w (600 + 2 * j) = gi m 43 i ∧ w (601 + 2 * j) = gi m 44 i) := fun i => by
    by_cases c : i < nQ w
    · obtain ⟨j, q⟩ := (p1 (gi m 43 i) (gi m 44 i)).mp ⟨i, c, rfl, rfl⟩
      exact ⟨j, fun _ => q⟩
    · exact ⟨0, fun z => absurd z c⟩
  let f : Nat → Nat := fun i => Classical.choose (hf i)
  have ef : ∀ i : Nat, i < nQ w → (f i < nQ w ∧ w (600 + 2 * f i) = gi m 43 i ∧ w (601 + 2 * f i) = gi m 44 i) := fun i => Classical.choose_spec (hf i)
  have hs := php (nQ w) f (fun i hi => (ef i hi).1) (fun i j hi hj e => by
    obtain ⟨_, a2, a3⟩ := ef i hi
    obtain ⟨_, b2, b3⟩ := ef j hj
    rw [e] at a2 a3
    exact p2 i j hi hj (a2.symm.trans b2) (a3.symm.trans b3))
  intro i j hi hj e1 e2
  obtain ⟨a, ha, rfl⟩ := hs i hi
  obtain ⟨b, hb, rfl⟩ := hs j hj
  obtain ⟨_, a2, a3⟩ := ef a ha
  obtain ⟨_, b2, b3⟩ := ef b hb
  have := p2 a b ha hb (a2.symm.trans (e1.trans b2)) (a3.symm.trans (e2.trans b3))
  rw [this]
theorem pi_ml {m : MM} {w : Nat → Int32} (h : R0 m w) (hv : V w) (a b : Int32) : ∀ d i n : Nat, i + d = nQ w → d < n → (∃ k : Nat, k < nQ w ∧ D_X0_pairIndex_2 m n a b (I i) = some (I k) ∧ gi m 43 k = a ∧ gi m 44 k = b) ∨ (D_X0_pairIndex_2 m n a b (I i) = some (-1) ∧ ∀ k : Nat, i ≤ k → k < nQ w → ¬ (gi m 43 k = a ∧ gi m 44 k = b)) := by
  have v6 := h.vc.2.2.2.2.2.1
  intro d
  induction d with
  | zero =>
    intro i n hi hn
    obtain ⟨n, rfl⟩ : ∃ n0 : Nat, n = n0 + 1 := ⟨n - 1, by omega⟩
    right
    refine ⟨?_, fun k h1 h2 => by omega⟩
    unfold D_X0_pairIndex_2
    rw [h.n20 hv, if_pos (leT (by omega) (by omega))]
  | succ d ih =>
    intro i n hi hn
    obtain ⟨n, rfl⟩ : ∃ n0 : Nat, n = n0 + 1 := ⟨n - 1, by omega⟩
    have q := ih (i + 1) n (by omega) (by omega)
    unfold D_X0_pairIndex_2
    rw [h.n20 hv, if_neg (leF (by omega) (by omega)), gdI (by omega) (by omega), gdI (by omega) (by omega), I_tnc (by omega), bnd_s, ixs1]
    by_cases c1 : gi m 43 i = a
    · by_cases c2 : gi m 44 i = b
      · left
        exact ⟨i, by omega, by rw [if_pos c1, if_pos c2], c1, c2⟩
      · rw [if_pos c1, if_neg c2]
        rcases q with q | ⟨q1, q2⟩
        · exact Or.inl q
        · refine Or.inr ⟨q1, fun k h1 h2 z => ?_⟩
          by_cases e : k = i
          · subst e; exact c2 z.2
          · exact q2 k (by omega) h2 z
    · rw [if_neg c1]
      rcases q with q | ⟨q1, q2⟩
      · exact Or.inl q
      · refine Or.inr ⟨q1, fun k h1 h2 z => ?_⟩
        by_cases e : k = i
        · subst e; exact c1 z.1
        · exact q2 k (by omega) h2 z
theorem pi_m {m : MM} {w : Nat → Int32} (h : R0 m w) (hv : V w) (a b : Int32) : (∃ k : Nat, k < nQ w ∧ D_X0_pairIndex a b m = some (I k) ∧ gi m 43 k = a ∧ gi m 44 k = b) ∨ (D_X0_pairIndex a b m = some (-1) ∧ ∀ k : Nat, k < nQ w → ¬ (gi m 43 k = a ∧ gi m 44 k = b)) := by
  have v6 := h.vc.2.2.2.2.2.1
  rcases pi_ml h hv a b (nQ w) 0 FU (by omega) (by show nQ w < 5000; omega) with q | ⟨q1, q2⟩
  · exact Or.inl q
  · exact Or.inr ⟨q1, fun k => q2 k (Nat.zero_le _)⟩
theorem pi_xl (x : MM) {w : Nat → Int32} (hv : V w) (v6 : nQ w ≤ 20) (a b : Int32) : ∀ d i n : Nat, i + d = nQ w → d < n → (∃ k : Nat, k < nQ w ∧ D_X10_pairIn_2 (pw x w) n 1 a b (I i) = some (I k) ∧ w (600 + 2 * k) = a ∧ w (601 + 2 * k) = b) ∨ (D_X10_pairIn_2 (pw x w) n 1 a b (I i) = some (-1) ∧ ∀ k : Nat, i ≤ k → k < nQ w → ¬ (w (600 + 2 * k) = a ∧ w (601 + 2 * k) = b)) := by
  intro d
  induction d with
  | zero =>
    intro i n hi hn
    obtain ⟨n, rfl⟩ : ∃ n0 : Nat, n = n0 + 1 := ⟨n - 1, by omega⟩
    right
    refine ⟨?_, fun k h1 h2 => by omega⟩
    unfold D_X10_pairIn_2
    rw [giP, hv.cnt.2.2.2.2.2.1, if_pos (leT (by omega) (by omega))]
  | succ d ih =>
    intro i n hi hn
    obtain ⟨n, rfl⟩ : ∃ n0 : Nat, n = n0 + 1 := ⟨n - 1, by omega⟩
    have q := ih (i + 1) n (by omega) (by omega)
    unfold D_X10_pairIn_2
    rw [giP, hv.cnt.2.2.2.2.2.1, if_neg (leF (by omega) (by omega)), ix600, ixs1, gdI (by omega) (by omega), gdI (by omega) (by omega), I_tnc (by omega), I_tnc (by omega), giP, giP, bnd_s, ixs1, show 600 + 2 * i + 1 = 601 + 2 * i by omega]
    by_cases c1 : w (600 + 2 * i) = a
    · by_cases c2 : w (601 + 2 * i) = b
      · left
        exact ⟨i, by omega, by rw [if_pos c1, if_pos c2], c1, c2⟩
      · rw [if_pos c1, if_neg c2]
        rcases q with q | ⟨q1, q2⟩
        · exact Or.inl q
        · refine Or.inr ⟨q1, fun k h1 h2 z => ?_⟩
          by_cases e : k = i
          · subst e; exact c2 z.2
          · exact q2 k (by omega) h2 z
    · rw [if_neg c1]
      rcases q with q | ⟨q1, q2⟩
      · exact Or.inl q
      · refine Or.inr ⟨q1, fun k h1 h2 z => ?_⟩
        by_cases e : k = i
        · subst e; exact c1 z.1
        · exact q2 k (by omega) h2 z
/-- the same pair is found on both sides, or on neither -/
theorem pi_s {m : MM} {w : Nat → Int32} (h : R0 m w) (x : MM) (hv : V w) (a b : Int32) : (∃ k l : Nat, k < nQ w ∧ l < nQ w ∧ D_X0_pairIndex a b m = some (I k) ∧ gi m 43 k = a ∧ gi m 44 k = b ∧ D_X10_pairIn 1 a b (pw x w) = some (I l) ∧ w (600 + 2 * l) = a ∧ w (601 + 2 * l) = b) ∨ (D_X0_pairIndex a b m = some (-1) ∧ D_X10_pairIn 1 a b (pw x w) = some (-1) ∧ (∀ k : Nat, k < nQ w → ¬ (gi m 43 k = a ∧ gi m 44 k = b)) ∧ ∀ k : Nat, k < nQ w → ¬ (w (600 + 2 * k) = a ∧ w (601 + 2 * k) = b)) := by
  have v6 := h.vc.2.2.2.2.2.1
  have hx : (∃ k : Nat, k < nQ w ∧ D_X10_pairIn 1 a b (pw x w) = some (I k) ∧ w (600 + 2 * k) = a ∧ w (601 + 2 * k) = b) ∨ (D_X10_pairIn 1 a b (pw x w) = some (-1) ∧ ∀ k : Nat, k < nQ w → ¬ (w (600 + 2 * k) = a ∧ w (601 + 2 * k) = b)) := by
    rcases pi_xl x hv v6 a b (nQ w) 0 FU (by omega) (by show nQ w < 5000; omega) with q | ⟨q1, q2⟩
    · exact Or.inl q
    · exact Or.inr ⟨q1, fun k => q2 k (Nat.zero_le _)⟩
  rcases pi_m h hv a b with ⟨k, k1, k2, k3, k4⟩ | ⟨k1, k2⟩
  · rcases hx with ⟨l, l1, l2, l3, l4⟩ | ⟨l1, l2⟩
    · exact Or.inl ⟨k, l, k1, l1, k2, k3, k4, l2, l3, l4⟩
    · obtain ⟨j, j1, j2⟩ := (h.pr.1 a b).mp ⟨k, k1, k3, k4⟩
      exact absurd j2 (l2 j j1)
  · rcases hx with ⟨l, l1, l2, l3, l4⟩ | ⟨l1, l2⟩
    · obtain ⟨j, j1, j2⟩ := (h.pr.1 a b).mpr ⟨l, l1, l3, l4⟩
      exact absurd j2 (k2 j j1)
    · exact Or.inr ⟨k1, l1, k2, l2⟩
/-- the row with other pairs -/
theorem pr_end {m m' : MM} {w w' : Nat → Int32} (hR : R m w) {n : Nat} (hn : n ≤ 20) (gm : ∀ q k : Nat, (q ≠ 43 ∧ q ≠ 44 ∧ (q ≠ 36 ∨ k ≠ 9)) → gi m' q k = gi m q k) (gL : ∀ q k : Nat, gl m' q k = gl m q k) (lo : ∀ i : Nat, (i < 600 ∧ i ≠ 20) → w' i = w i) (e20 : w' 20 = I n) (g20 : gi m' 36 9 = I n)
    (hp : (∀ a b : Int32, (∃ i : Nat, i < n ∧ gi m' 43 i = a ∧ gi m' 44 i = b) ↔ ∃ i : Nat, i < n ∧ w' (600 + 2 * i) = a ∧ w' (601 + 2 * i) = b) ∧ ∀ i j : Nat, i < n → j < n → gi m' 43 i = gi m' 43 j → gi m' 44 i = gi m' 44 j → i = j)
    (hr : ∃ ρ : Nat → Nat, ∀ i : Nat, i < n → ∃ a b : Nat, a < nP w ∧ b < nP w ∧ w' (600 + 2 * i) = I a ∧ w' (600 + 2 * i + 1) = I b ∧ ρ a < ρ b) : R m' w' := by
  obtain ⟨v1, v2, v3, v4, v5, v6, v7, v8⟩ := hR.r0.vc
  have hv := hR.v
  have eQ : nQ w' = n := by
    unfold nQ
    rw [e20, I_tnc (by omega)]
  have eS := nS_e (lo 15 (by omega))
  have eT := nT_e (lo 16 (by omega))
  have eK := nK_e (lo 17 (by omega))
  have eF := nF_e (lo 18 (by omega))
  have eP := nP_e (lo 19 (by omega))
  have eL := nL_e (lo 28 (by omega))
  refine ⟨⟨?_, fun a ha => ?_⟩, ?_⟩
  · refine hR.r0.fPairs gm (fun q k _ => gL q k) lo ?_ (g20.trans e20.symm) (by rw [eQ]; exact hp)
    rw [eS, eT, eK, eF, eP, eQ, eL]
    refine ⟨v1, v2, v3, v4, v5, hn, v7, fun f hf => ?_⟩
    have : wt w' f = wt w f := by unfold wt; rw [lo (134 + 11 * f) (by omega)]
    rw [this]
    exact v8 f hf
  · show gi m' 50 a = w' (37 + a)
    rw [gm 50 a (by omega), lo (37 + a) (by omega)]
    exact hR.1.2 a ha
  · obtain ⟨c1, c2, c3, c4, c5, c6, c7⟩ := hv.cnt
    refine ⟨?_, hv.vg.cg (fun i hi => lo i (by omega)) (by rw [lo 21 (by omega)]; exact hv.vg.2.2.2.2.1) (by rw [lo 22 (by omega)]; exact hv.vg.2.2.2.2.2), by rw [lo 29 (by omega)]; exact hv.hlt, fun s hs => ?_, fun f hf => ?_, fun k hk => ?_, fun k hk => ?_, ?_⟩
    · rw [eS, eT, eK, eF, eP, eQ, eL, lo 15 (by omega), lo 16 (by omega), lo 17 (by omega), lo 18 (by omega), lo 19 (by omega), lo 28 (by omega)]
      exact ⟨c1, c2, c3, c4, c5, e20, c7⟩
    · rw [eS] at hs
      rw [eT, eK]
      exact (hv.sp s hs).cg (fun j hj => lo _ (by omega))
    · rw [eF] at hf
      rw [eK]
      exact (hv.fd f hf).cg (fun j hj => lo _ (by omega))
    · rw [eK] at hk
      rw [eT, lo (50 + k) (by omega)]
      exact hv.nz k hk
    · rw [eP] at hk
      rw [eK]
      exact (hv.st k hk).cg (fun j hj => lo _ (by omega))
    · unfold PrOk
      rw [eQ, eP]
      exact hr
/-- one pair more -/
theorem add_s {m : MM} {w : Nat → Int32} (hR : R m w) (x : MM) {a b : Nat} (ha : a < nP w) (hb : b < nP w) (h20 : nQ w < 20) (hn : ∀ k : Nat, k < nQ w → ¬ (gi m 43 k = I a ∧ gi m 44 k = I b)) (hc : ¬ ∃ k : Nat, Wk w k b a) : ∃ m' : MM, D_X0_addPair (I a) (I b) m = some m' ∧ gi m' 36 9 = I (nQ w + 1) ∧ D_X10_addsPair 1 (I a) (I b) (pw x w) = some (pw x (upd (upd (upd w (600 + 2 * nQ w) (I a)) (600 + 2 * nQ w + 1) (I b)) 20 (I (nQ w + 1)))) ∧ R m' (upd (upd (upd w (600 + 2 * nQ w) (I a)) (600 + 2 * nQ w + 1) (I b)) 20 (I (nQ w + 1))) := by
  obtain ⟨v1, v2, v3, v4, v5, v6, v7, v8⟩ := hR.r0.vc
  have hv := hR.v
  have hm : D_X0_addPair (I a) (I b) m = some (si (si (si m 43 (nQ w) (I a)) 44 (nQ w) (I b)) 36 9 (I (nQ w + 1))) := by
    unfold D_X0_addPair
    rw [hR.r0.n20 hv, if_neg (show ¬ (20 : Int32) ≤ I (nQ w) from leF (a := 20) h20 (by omega)), gdI (by omega) (by omega), bnd_s, gi_si_ne (by omega), hR.r0.n20 hv, gdI (by omega) (by omega), bnd_s, gi_si_ne (by omega), gi_si_ne (by omega), hR.r0.n20 hv, bnd_s, I_tnc (by omega), ixs1]
  have o : ∀ i : Nat, i < 600 + 2 * nQ w → i ≠ 20 → upd (upd (upd w (600 + 2 * nQ w) (I a)) (600 + 2 * nQ w + 1) (I b)) 20 (I (nQ w + 1)) i = w i := fun i hi h => by rw [upd_ne h, upd_ne (by omega), upd_ne (by omega)]
  have oa : upd (upd (upd w (600 + 2 * nQ w) (I a)) (600 + 2 * nQ w + 1) (I b)) 20 (I (nQ w + 1)) (600 + 2 * nQ w) = I a := by rw [upd_ne (by omega), upd_ne (by omega), upd_eq]
  have ob : upd (upd (upd w (600 + 2 * nQ w) (I a)) (600 + 2 * nQ w + 1) (I b)) 20 (I (nQ w + 1)) (601 + 2 * nQ w) = I b := by rw [upd_ne (by omega), show 601 + 2 * nQ w = 600 + 2 * nQ w + 1 by omega, upd_eq]
  generalize hw : upd (upd (upd w (600 + 2 * nQ w) (I a)) (600 + 2 * nQ w + 1) (I b)) 20 (I (nQ w + 1)) = w' at o oa ob
  have g3 : ∀ i : Nat, i < nQ w → gi (si (si (si m 43 (nQ w) (I a)) 44 (nQ w) (I b)) 36 9 (I (nQ w + 1))) 43 i = gi m 43 i := fun i hi => by rw [gi_si_ne (by omega), gi_si_ne (by omega), gi_si_ne (by omega)]
  have g4 : ∀ i : Nat, i < nQ w → gi (si (si (si m 43 (nQ w) (I a)) 44 (nQ w) (I b)) 36 9 (I (nQ w + 1))) 44 i = gi m 44 i := fun i hi => by rw [gi_si_ne (by omega), gi_si_ne (by omega), gi_si_ne (by omega)]
  have g3n : gi (si (si (si m 43 (nQ w) (I a)) 44 (nQ w) (I b)) 36 9 (I (nQ w + 1))) 43 (nQ w) = I a := by rw [gi_si_ne (by omega), gi_si_ne (by omega), gi_si_eq]
  have g4n : gi (si (si (si m 43 (nQ w) (I a)) 44 (nQ w) (I b)) 36 9 (I (nQ w + 1))) 44 (nQ w) = I b := by rw [gi_si_ne (by omega), gi_si_eq]
  have gm : ∀ q k : Nat, (q ≠ 43 ∧ q ≠ 44 ∧ (q ≠ 36 ∨ k ≠ 9)) → gi (si (si (si m 43 (nQ w) (I a)) 44 (nQ w) (I b)) 36 9 (I (nQ w + 1))) q k = gi m q k := fun q k hq => by rw [gi_si_ne (by omega), gi_si_ne (by omega), gi_si_ne (by omega)]
  have g9 : gi (si (si (si m 43 (nQ w) (I a)) 44 (nQ w) (I b)) 36 9 (I (nQ w + 1))) 36 9 = I (nQ w + 1) := gi_si_eq _ _ _ _
  have gL : ∀ q k : Nat, gl (si (si (si m 43 (nQ w) (I a)) 44 (nQ w) (I b)) 36 9 (I (nQ w + 1))) q k = gl m q k := fun q k => rfl
  generalize hm2 : si (si (si m 43 (nQ w) (I a)) 44 (nQ w) (I b)) 36 9 (I (nQ w + 1)) = m' at hm g3 g4 g3n g4n gm g9 gL
  refine ⟨m', hm, g9, ?_, ?_⟩
  · unfold D_X10_addsPair
    rw [giP, hv.cnt.2.2.2.2.2.1, ix600, gdI (by omega) (by omega), bnd_s, I_tnc (by omega), siP, giP, upd_ne (by omega), hv.cnt.2.2.2.2.2.1, ix600, ixs1, gdI (by omega) (by omega), bnd_s, I_tnc (by omega), siP, giP, upd_ne (by omega), upd_ne (by omega), hv.cnt.2.2.2.2.2.1, ixs1, bnd_s, siP, hw]
  · obtain ⟨p1, p2⟩ := hR.r0.pr
    refine pr_end hR (n := nQ w + 1) (by omega) gm gL (fun i hi => o i (by omega) hi.2) (by rw [← hw, upd_eq]) g9 ⟨fun c d => ?_, fun i j hi hj e1 e2 => ?_⟩ ?_
    · constructor
      · rintro ⟨i, hi, e1, e2⟩
        by_cases e : i = nQ w
        · subst e
          exact ⟨nQ w, by omega, by rw [oa, ← e1, g3n], by rw [ob, ← e2, g4n]⟩
        · rw [g3 i (by omega)] at e1
          rw [g4 i (by omega)] at e2
          obtain ⟨j, hj, f1, f2⟩ := (p1 c d).mp ⟨i, by omega, e1, e2⟩
          exact ⟨j, by omega, by rw [o _ (by omega) (by omega)]; exact f1, by rw [o _ (by omega) (by omega)]; exact f2⟩
      · rintro ⟨i, hi, e1, e2⟩
        by_cases e : i = nQ w
        · subst e
          exact ⟨nQ w, by omega, by rw [g3n, ← e1, oa], by rw [g4n, ← e2, ob]⟩
        · rw [o _ (by omega) (by omega)] at e1
          rw [o _ (by omega) (by omega)] at e2
          obtain ⟨j, hj, f1, f2⟩ := (p1 c d).mpr ⟨i, by omega, e1, e2⟩
          exact ⟨j, by omega, by rw [g3 j hj]; exact f1, by rw [g4 j hj]; exact f2⟩
    · by_cases ei : i = nQ w
      · by_cases ej : j = nQ w
        · rw [ei, ej]
        · rw [ei, g3n, g3 j (by omega)] at e1
          rw [ei, g4n, g4 j (by omega)] at e2
          exact absurd ⟨e1.symm, e2.symm⟩ (hn j (by omega))
      · by_cases ej : j = nQ w
        · rw [ej, g3n, g3 i (by omega)] at e1
          rw [ej, g4n, g4 i (by omega)] at e2
          exact absurd ⟨e1, e2⟩ (hn i (by omega))
        · rw [g3 i (by omega), g3 j (by omega)] at e1
          rw [g4 i (by omega), g4 j (by omega)] at e2
          exact p2 i j (by omega) (by omega) e1 e2
    · obtain ⟨ρ, hr⟩ := hv.pr
      have hd : ∀ v : Nat, ∃ y : Nat, ((∃ k : Nat, Wk w k b v) → y = ρ v + ρ a + 1) ∧ ((¬ ∃ k : Nat, Wk w k b v) → y = ρ v) := fun v => by
        by_cases c : ∃ k : Nat, Wk w k b v
        · exact ⟨ρ v + ρ a + 1, fun _ => rfl, fun z => absurd c z⟩
        · exact ⟨ρ v, fun z => absurd z c, fun _ => rfl⟩
      refine ⟨fun v => Classical.choose (hd v), fun i hi => ?_⟩
      by_cases e : i = nQ w
      · subst e
        refine ⟨a, b, ha, hb, oa, by rw [show 600 + 2 * nQ w + 1 = 601 + 2 * nQ w by omega]; exact ob, ?_⟩
        have qa := (Classical.choose_spec (hd a)).2 hc
        have qb := (Classical.choose_spec (hd b)).1 ⟨0, rfl⟩
        show Classical.choose (hd a) < Classical.choose (hd b)
        omega
      · obtain ⟨u, v, hu, hvv, e1, e2, lt⟩ := hr i (by omega)
        refine ⟨u, v, hu, hvv, by rw [o _ (by omega) (by omega)]; exact e1, by rw [o _ (by omega) (by omega)]; exact e2, ?_⟩
        show Classical.choose (hd u) < Classical.choose (hd v)
        by_cases cu : ∃ k : Nat, Wk w k b u
        · obtain ⟨k, hk⟩ := cu
          have qu := (Classical.choose_spec (hd u)).1 ⟨k, hk⟩
          have qv := (Classical.choose_spec (hd v)).1 ⟨k + 1, hk.snoc ⟨i, by omega, e1, e2⟩ (by omega)⟩
          omega
        · have qu := (Classical.choose_spec (hd u)).2 cu
          by_cases cv : ∃ k : Nat, Wk w k b v
          · have qv := (Classical.choose_spec (hd v)).1 cv
            omega
          · have qv := (Classical.choose_spec (hd v)).2 cv
            omega
theorem T_addBefore {m : MM} {w : Nat → Int32} (hR : R m w) (x h : MM) (x1 x2 : Int32) : AnsW m x w 1 0 (D_X9_addBefore x1 x2 h m) (D_X10_addBefore x1 x2 (pw x w)) := by
  obtain ⟨v1, v2, v3, v4, v5, v6, v7, v8⟩ := hR.r0.vc
  have hv := hR.v
  unfold D_X9_addBefore D_X10_addBefore
  rw [hR.r0.n19 hv]
  by_cases c1 : ok x1 (nP w)
  · obtain ⟨a, ha, rfl⟩ := ok_ex c1
    rw [rqi_y (by omega) c1, bX_s, nstP_y hv v5 c1, b2_s, if00, istP hv v5, b1_s]
    by_cases c2 : ok x2 (nP w)
    · obtain ⟨b, hb, rfl⟩ := ok_ex c2
      rw [rqi_y (by omega) c2, bX_s, if_pos c2, if10]
      unfold D_X10_addBefore_22
      rw [tif0P, b2_s, if00]
      obtain ⟨ρ, hr⟩ := hv.rk hR.r0
      obtain ⟨y1, y2⟩ := circ_m hR.r0 hv (a := a) (b := b) (by omega) (by omega)
      obtain ⟨z1, z2⟩ := leads_x (pw (th x 0) w) (q0 := 1) (fun k _ => giP _ w k) hr hv.cnt.2.2.2.2.2.1 v6 (b := b) (a := a) (by omega) (by omega)
      rcases pi_s hR.r0 (th x 0) hv (I a) (I b) with ⟨k, l, k1, l1, p1, -, -, q1, q2, q3⟩ | ⟨p1, q1, p2, q2⟩
      · have hc : ¬ ∃ k : Nat, Wk w k b a := fun ⟨n, hn⟩ => by
          have e : Eg w a b := ⟨l, l1, q2, by rw [show 600 + 2 * l + 1 = 601 + 2 * l by omega]; exact q3⟩
          have ht : ∀ t : Nat, ∃ n' : Nat, t ≤ n' ∧ Wk w n' b a := by
            intro t
            induction t with
            | zero => exact ⟨n, Nat.zero_le _, hn⟩
            | succ t ih =>
              obtain ⟨n', h1, h2⟩ := ih
              exact ⟨n' + 1 + n, by omega, (h2.snoc e (by omega)).app hn⟩
          obtain ⟨n', h1, h2⟩ := ht 21
          have := Wk.le hr (by omega) h2
          omega
        rw [y2 hc, b1_s, if00, p1, b1_s, if_neg (I_ne_neg (by omega)), q1, b1_s, if_neg (I_ne_neg (by omega)), giP, hR.r0.c20]
        exact AnsW.same hR rfl rfl
      · rw [q1, b1_s, if_pos rfl]
        by_cases hc : ∃ k : Nat, Wk w k b a
        · rw [y1 hc, b1_s, if10, z1 hc, b1_s, if10]
          exact AnsW.same hR rfl rfl
        · rw [y2 hc, b1_s, if00, z2 hc, b1_s, if00, p1, b1_s, if_pos rfl, hR.r0.n20 hv, giP, hv.cnt.2.2.2.2.2.1]
          by_cases h20 : nQ w < 20
          · obtain ⟨m', a1, a2, a3, a4⟩ := add_s hR (th x 0) ha hb h20 p2 hc
            rw [if_pos (show I (nQ w) < (20 : Int32) from (I_lt (b := 20) (by omega) (by decide)).mpr h20), if_neg (show ¬ I (nQ w) = (20 : Int32) from fun z => absurd ((I_inj (b := 20) (by omega) (by decide)).mp z) (by omega)), a1, b1_s, a2, a3, b1_s, giP, upd_eq]
            refine AnsW.y rfl rfl a4 Rn.z (by rw [upd_ne (by omega), upd_ne (by omega), upd_ne (by omega), Int32.add_zero])
          · have e20 : nQ w = 20 := by omega
            rw [e20, if_neg (show ¬ I 20 < (20 : Int32) by decide), if_pos (show I 20 = (20 : Int32) from rfl)]
            exact AnsW.same hR rfl rfl
    · unfold D_X10_addBefore_22
      rw [rqi_n (by omega) c2, bX_x, if_neg c2, if00, tif1P _ _ (by decide), b2_s, if10]
      exact AnsW.t0 (by decide) rfl rfl
  · rw [rqi_n (by omega) c1, bX_x, nstP_n hv v5 c1, b2_s, if10]
    exact AnsW.t0 (by decide) rfl rfl
