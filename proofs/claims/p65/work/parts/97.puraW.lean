/-! PURE: a machine that is being read grows -/
theorem SpOk.gr {nt nk nt' nk' : Nat} {r : Nat → Int32} (h : SpOk nt nk r) (a : nt ≤ nt') (b : nk ≤ nk') : SpOk nt' nk' r := by
  obtain ⟨h1, h2, h3, h4⟩ := h
  exact ⟨h1.imp id (fun ⟨t, t1, t2⟩ => ⟨t, by omega, t2⟩), h2.imp id (fun ⟨t, t1, t2⟩ => ⟨t, by omega, t2⟩), h3, h4⟩
theorem FdOk.gr {nk nk' : Nat} {r : Nat → Int32} (h : FdOk nk r) (b : nk ≤ nk') : FdOk nk' r := by
  obtain ⟨⟨k, k1, k2⟩, h2⟩ := h
  exact ⟨⟨k, by omega, k2⟩, h2⟩
theorem StOk.gr {nk nk' : Nat} {r : Nat → Int32} (h : StOk nk r) (b : nk ≤ nk') : StOk nk' r := by
  obtain ⟨⟨k, k1, k2⟩, h2⟩ := h
  exact ⟨⟨k, by omega, k2⟩, h2⟩
theorem V.gr {w w' : Nat → Int32} (hv : V w) (cnt : w' 15 = I (nS w') ∧ w' 16 = I (nT w') ∧ w' 17 = I (nK w') ∧ w' 18 = I (nF w') ∧ w' 19 = I (nP w') ∧ w' 20 = I (nQ w') ∧ w' 28 = I (nL w')) (lo : ∀ i : Nat, (i < 15 ∨ i = 21 ∨ i = 22 ∨ i = 29 ∨ 58 ≤ i ∧ i < 90) → w' i = w i) (eS : nS w' = nS w) (hT : nT w ≤ nT w') (hK : nK w ≤ nK w') (fd : ∀ f : Nat, f < nF w' → FdOk (nK w') (Fb w' f)) (nz : ∀ k : Nat, k < nK w' → ∃ t : Nat, t < nT w' ∧ w' (50 + k) = I t) (st : ∀ k : Nat, k < nP w' → StOk (nK w') (Kb w' k)) (pr : PrOk w') (h4 : nS w ≤ 4) : V w' := by
  refine ⟨cnt, hv.vg.cg (fun i hi => lo i (by omega)) (by rw [lo 21 (by omega)]; exact hv.vg.2.2.2.2.1) (by rw [lo 22 (by omega)]; exact hv.vg.2.2.2.2.2), by rw [lo 29 (by omega)]; exact hv.hlt, fun s hs => ?_, fd, nz, st, pr⟩
  rw [eS] at hs
  exact ((hv.sp s hs).gr hT hK).cg (fun j hj => lo _ (by omega))
theorem PrOk.gr {w w' : Nat → Int32} (h : PrOk w) (h20 : nQ w ≤ 20) (eQ : nQ w' = nQ w) (hP : nP w ≤ nP w') (lo : ∀ i : Nat, 600 ≤ i → i < 640 → w' i = w i) : PrOk w' := by
  obtain ⟨ρ, hr⟩ := h
  refine ⟨ρ, fun i hi => ?_⟩
  rw [eQ] at hi
  obtain ⟨a, b, h1, h2, h3, h4, h5⟩ := hr i hi
  exact ⟨a, b, by omega, by omega, by rw [lo _ (by omega) (by omega)]; exact h3, by rw [lo _ (by omega) (by omega)]; exact h4, h5⟩
theorem tncI {v : Int32} {n : Nat} (h : v = I n) (hn : n < 2147483648) : v.toNatClampNeg = n := by rw [h, I_tnc hn]
theorem R.of0 {m' m : MM} {w w' : Nat → Int32} (hR : R m w) (h0 : R0 m' w') (e50 : ∀ a : Nat, gi m' 50 a = gi m 50 a) (e37 : ∀ i : Nat, 37 ≤ i → i < 44 → w' i = w i) (hv : V w') : R m' w' := ⟨⟨h0, fun a ha => by
  show gi m' 50 a = w' (37 + a)
  rw [e50, e37 _ (by omega) (by omega)]
  exact hR.1.2 a ha⟩, hv⟩
theorem type_R {m : MM} {w : Nat → Int32} (hR : R m w) (hz : Zr w) (h6 : nT w < 6) (v : Int32) : ∃ m' : MM, D_X6_addType v m = some m' ∧ R m' (upd (upd w (44 + nT w) v) 16 (I (nT w + 1))) ∧ Zr (upd (upd w (44 + nT w) v) 16 (I (nT w + 1))) := by
  obtain ⟨v1, v2, v3, v4, v5, v6, v7, v8⟩ := hR.r0.vc
  have hv := hR.v
  obtain ⟨c1, c2, c3, c4, c5, c6, c7⟩ := hv.cnt
  have hm : D_X6_addType v m = some (si (si m 27 (nT w) v) 24 3 (I (nT w + 1))) := by
    unfold D_X6_addType
    rw [hR.r0.n16 hv, if_neg (show ¬ (6 : Int32) ≤ I (nT w) from leF (a := 6) h6 (by omega)), gdI (by omega) (by omega), bnd_s, gi_si_ne (by omega), hR.r0.n16 hv, bnd_s, I_tnc (by omega), ixs1]
  have o : ∀ i : Nat, i ≠ 16 → i ≠ 44 + nT w → upd (upd w (44 + nT w) v) 16 (I (nT w + 1)) i = w i := fun i h1 h2 => by rw [upd_ne h1, upd_ne h2]
  have e16 : upd (upd w (44 + nT w) v) 16 (I (nT w + 1)) 16 = I (nT w + 1) := upd_eq _ _ _
  have eN : upd (upd w (44 + nT w) v) 16 (I (nT w + 1)) (44 + nT w) = v := by rw [upd_ne (by omega), upd_eq]
  generalize upd (upd w (44 + nT w) v) 16 (I (nT w + 1)) = w' at o e16 eN ⊢
  have g : ∀ q k : Nat, (q ≠ 27 ∨ k ≠ nT w) → (q ≠ 24 ∨ k ≠ 3) → gi (si (si m 27 (nT w) v) 24 3 (I (nT w + 1))) q k = gi m q k := fun q k h1 h2 => by rw [gi_si_ne (by omega), gi_si_ne (by omega)]
  have g3 : gi (si (si m 27 (nT w) v) 24 3 (I (nT w + 1))) 24 3 = I (nT w + 1) := gi_si_eq _ _ _ _
  have gN : gi (si (si m 27 (nT w) v) 24 3 (I (nT w + 1))) 27 (nT w) = v := by rw [gi_si_ne (by omega), gi_si_eq]
  have gL : ∀ q k : Nat, gl (si (si m 27 (nT w) v) 24 3 (I (nT w + 1))) q k = gl m q k := fun _ _ => rfl
  generalize si (si m 27 (nT w) v) 24 3 (I (nT w + 1)) = m' at hm g g3 gN gL
  have eT : nT w' = nT w + 1 := tncI e16 (by omega)
  have eS := nS_e (o 15 (by omega) (by omega))
  have eK := nK_e (o 17 (by omega) (by omega))
  have eF := nF_e (o 18 (by omega) (by omega))
  have eP := nP_e (o 19 (by omega) (by omega))
  have eQ := nQ_e (o 20 (by omega) (by omega))
  have eL := nL_e (o 28 (by omega) (by omega))
  refine ⟨m', hm, hR.of0 ?_ (fun a => g 50 a (by omega) (by omega)) (fun i h1 h2 => o i (by omega) (by omega)) ?_, ?_⟩
  · refine hR.r0.fType (fun q k hq => g q k (by omega) (by omega)) (fun q k _ => gL q k) (fun i hi => o i (by omega) (by omega)) ?_ (g3.trans e16.symm) (fun t ht => ?_)
    · rw [eS, eT, eK, eF, eP, eQ, eL]
      refine ⟨v1, by omega, v3, v4, v5, v6, v7, fun f hf => ?_⟩
      unfold wt
      rw [o _ (by omega) (by omega)]
      exact v8 f hf
    · rw [eT] at ht
      by_cases c : t = nT w
      · subst c
        rw [gN, eN]
      · rw [g 27 t (by omega) (by omega), o (44 + t) (by omega) (by omega)]
        exact hR.r0.fr t (by omega)
  · refine hv.gr ?_ (fun i hi => o i (by omega) (by omega)) eS (by omega) (by omega) (fun f hf => ?_) (fun k hk => ?_) (fun k hk => ?_) (hv.pr.gr v6 eQ (by omega) (fun i h1 h2 => o i (by omega) (by omega))) v1
    · rw [eS, eT, eK, eF, eP, eQ, eL, o 15 (by omega) (by omega), o 17 (by omega) (by omega), o 18 (by omega) (by omega), o 19 (by omega) (by omega), o 20 (by omega) (by omega), o 28 (by omega) (by omega)]
      exact ⟨c1, e16, c3, c4, c5, c6, c7⟩
    · rw [eF] at hf
      rw [eK]
      exact (hv.fd f hf).cg (fun j hj => o _ (by omega) (by omega))
    · rw [eK] at hk
      obtain ⟨t, t1, t2⟩ := hv.nz k hk
      exact ⟨t, by omega, by rw [o _ (by omega) (by omega)]; exact t2⟩
    · rw [eP] at hk
      rw [eK]
      exact (hv.st k hk).cg (fun j hj => o _ (by omega) (by omega))
  · obtain ⟨z1, z2, z3⟩ := hz
    refine ⟨by rw [o 23 (by omega) (by omega)]; exact z1, fun f j h1 h2 h3 h4 => by rw [o _ (by omega) (by omega)]; exact z2 f j (by omega) h2 h3 h4, fun k h1 h2 => ?_⟩
    rw [o _ (by omega) (by omega), o _ (by omega) (by omega), o _ (by omega) (by omega)]
    exact z3 k (by omega) h2
theorem kind_R {m : MM} {w : Nat → Int32} (hR : R m w) (hz : Zr w) (h8 : nK w < 8) {t : Nat} (ht : t < nT w) : ∃ m' : MM, D_X5_add (I t) m = some m' ∧ R m' (upd (upd w (50 + nK w) (I t)) 17 (I (nK w + 1))) ∧ Zr (upd (upd w (50 + nK w) (I t)) 17 (I (nK w + 1))) := by
  obtain ⟨v1, v2, v3, v4, v5, v6, v7, v8⟩ := hR.r0.vc
  have hv := hR.v
  obtain ⟨c1, c2, c3, c4, c5, c6, c7⟩ := hv.cnt
  have hm : D_X5_add (I t) m = some (si (si m 29 (nK w) (I t)) 28 0 (I (nK w + 1))) := by
    unfold D_X5_add
    rw [hR.r0.n17 hv, if_neg (show ¬ (8 : Int32) ≤ I (nK w) from leF (a := 8) h8 (by omega)), gdI (by omega) (by omega), bnd_s, gi_si_ne (by omega), hR.r0.n17 hv, bnd_s, I_tnc (by omega), ixs1]
  have o : ∀ i : Nat, i ≠ 17 → i ≠ 50 + nK w → upd (upd w (50 + nK w) (I t)) 17 (I (nK w + 1)) i = w i := fun i h1 h2 => by rw [upd_ne h1, upd_ne h2]
  have e17 : upd (upd w (50 + nK w) (I t)) 17 (I (nK w + 1)) 17 = I (nK w + 1) := upd_eq _ _ _
  have eN : upd (upd w (50 + nK w) (I t)) 17 (I (nK w + 1)) (50 + nK w) = I t := by rw [upd_ne (by omega), upd_eq]
  generalize upd (upd w (50 + nK w) (I t)) 17 (I (nK w + 1)) = w' at o e17 eN ⊢
  have g : ∀ q k : Nat, (q ≠ 29 ∨ k ≠ nK w) → (q ≠ 28 ∨ k ≠ 0) → gi (si (si m 29 (nK w) (I t)) 28 0 (I (nK w + 1))) q k = gi m q k := fun q k h1 h2 => by rw [gi_si_ne (by omega), gi_si_ne (by omega)]
  have g3 : gi (si (si m 29 (nK w) (I t)) 28 0 (I (nK w + 1))) 28 0 = I (nK w + 1) := gi_si_eq _ _ _ _
  have gN : gi (si (si m 29 (nK w) (I t)) 28 0 (I (nK w + 1))) 29 (nK w) = I t := by rw [gi_si_ne (by omega), gi_si_eq]
  have gL : ∀ q k : Nat, gl (si (si m 29 (nK w) (I t)) 28 0 (I (nK w + 1))) q k = gl m q k := fun _ _ => rfl
  generalize si (si m 29 (nK w) (I t)) 28 0 (I (nK w + 1)) = m' at hm g g3 gN gL
  have eK : nK w' = nK w + 1 := tncI e17 (by omega)
  have eS := nS_e (o 15 (by omega) (by omega))
  have eT := nT_e (o 16 (by omega) (by omega))
  have eF := nF_e (o 18 (by omega) (by omega))
  have eP := nP_e (o 19 (by omega) (by omega))
  have eQ := nQ_e (o 20 (by omega) (by omega))
  have eL := nL_e (o 28 (by omega) (by omega))
  refine ⟨m', hm, hR.of0 ?_ (fun a => g 50 a (by omega) (by omega)) (fun i h1 h2 => o i (by omega) (by omega)) ?_, ?_⟩
  · refine hR.r0.fKind (fun q k hq => g q k (by omega) (by omega)) (fun q k _ => gL q k) (fun i hi => o i (by omega) (by omega)) ?_ (g3.trans e17.symm) (fun k hk => ?_)
    · rw [eS, eT, eK, eF, eP, eQ, eL]
      refine ⟨v1, v2, by omega, v4, v5, v6, v7, fun f hf => ?_⟩
      unfold wt
      rw [o _ (by omega) (by omega)]
      exact v8 f hf
    · rw [eK] at hk
      by_cases c : k = nK w
      · subst c
        rw [gN, eN]
      · rw [g 29 k (by omega) (by omega), o (50 + k) (by omega) (by omega)]
        exact hR.r0.nz k (by omega)
  · refine hv.gr ?_ (fun i hi => o i (by omega) (by omega)) eS (by omega) (by omega) (fun f hf => ?_) (fun k hk => ?_) (fun k hk => ?_) (hv.pr.gr v6 eQ (by omega) (fun i h1 h2 => o i (by omega) (by omega))) v1
    · rw [eS, eT, eK, eF, eP, eQ, eL, o 15 (by omega) (by omega), o 16 (by omega) (by omega), o 18 (by omega) (by omega), o 19 (by omega) (by omega), o 20 (by omega) (by omega), o 28 (by omega) (by omega)]
      exact ⟨c1, c2, e17, c4, c5, c6, c7⟩
    · rw [eF] at hf
      rw [eK]
      exact ((hv.fd f hf).gr (by omega)).cg (fun j hj => o _ (by omega) (by omega))
    · rw [eK] at hk
      rw [eT]
      by_cases c : k = nK w
      · subst c
        exact ⟨t, ht, eN⟩
      · obtain ⟨t, t1, t2⟩ := hv.nz k (by omega)
        exact ⟨t, t1, by rw [o _ (by omega) (by omega)]; exact t2⟩
    · rw [eP] at hk
      rw [eK]
      exact ((hv.st k hk).gr (by omega)).cg (fun j hj => o _ (by omega) (by omega))
  · obtain ⟨z1, z2, z3⟩ := hz
    refine ⟨by rw [o 23 (by omega) (by omega)]; exact z1, fun f j h1 h2 h3 h4 => by rw [o _ (by omega) (by omega)]; exact z2 f j (by omega) h2 h3 h4, fun k h1 h2 => ?_⟩
    rw [o _ (by omega) (by omega), o _ (by omega) (by omega), o _ (by omega) (by omega)]
    exact z3 k (by omega) h2
/-- the row with a feeder more -/
def fdW (w : Nat → Int32) (F K : Nat) (X P M : Int32) : Nat → Int32 := upd (upd (upd (upd (upd (upd w (130 + 11 * F) (I K)) (131 + 11 * F) X) (132 + 11 * F) P) (133 + 11 * F) M) (90 + 5 * K) (w (90 + 5 * K) + P)) 18 (I (F + 1))
theorem feed_R {m : MM} {w : Nat → Int32} (hR : R m w) (hz : Zr w) (h10 : nF w < 10) {K : Nat} (hK : K < nK w) {X P : Nat} (hX : X ≤ 999) (hP : P ≤ 500) (M : Int32) : ∃ m' : MM, D_X6_addFeeder (I K) (I X) (I P) M m = some m' ∧ R m' (fdW w (nF w) K (I X) (I P) M) ∧ Zr (fdW w (nF w) K (I X) (I P) M) := by
  obtain ⟨v1, v2, v3, v4, v5, v6, v7, v8⟩ := hR.r0.vc
  have hv := hR.v
  obtain ⟨c1, c2, c3, c4, c5, c6, c7⟩ := hv.cnt
  obtain ⟨z1, z2, z3⟩ := hz
  have e30 : gi m 30 K = w (90 + 5 * K) := hR.r0.bk K 0 (by omega) (by omega)
  have hm : D_X6_addFeeder (I K) (I X) (I P) M m = some (si (si (si (si (si (si (si (si (si (si m (4 + nF w) 0 (I K)) (4 + nF w) 1 (I X)) (4 + nF w) 2 (I P)) (4 + nF w) 3 M) (4 + nF w) 4 0) (4 + nF w) 6 0) (4 + nF w) 7 0) (4 + nF w) 8 0) 30 K (w (90 + 5 * K) + I P)) 24 6 (I (nF w + 1))) := by
    unfold D_X6_addFeeder D_X2_clear
    simp only [bnd_s, b1_s]
    rw [hR.r0.n18 hv, if_neg (show ¬ (10 : Int32) ≤ I (nF w) from leF (a := 10) h10 (by omega)), gdI (by omega) (by omega), gdI (by omega) (by omega), gdI (by omega) (by omega), I_tnc (by omega), I_tnc (by omega)]
    have e1 : gi (si (si (si (si (si (si (si (si m (4 + nF w) 0 (I K)) (4 + nF w) 1 (I X)) (4 + nF w) 2 (I P)) (4 + nF w) 3 M) (4 + nF w) 4 0) (4 + nF w) 6 0) (4 + nF w) 7 0) (4 + nF w) 8 0) 30 K = w (90 + 5 * K) := by
      rw [gi_si_ne (by omega), gi_si_ne (by omega), gi_si_ne (by omega), gi_si_ne (by omega), gi_si_ne (by omega), gi_si_ne (by omega), gi_si_ne (by omega), gi_si_ne (by omega), e30]
    rw [e1]
    have e2 : gi (si (si (si (si (si (si (si (si (si m (4 + nF w) 0 (I K)) (4 + nF w) 1 (I X)) (4 + nF w) 2 (I P)) (4 + nF w) 3 M) (4 + nF w) 4 0) (4 + nF w) 6 0) (4 + nF w) 7 0) (4 + nF w) 8 0) 30 K (w (90 + 5 * K) + I P)) 24 6 = I (nF w) := by
      rw [gi_si_ne (by omega), gi_si_ne (by omega), gi_si_ne (by omega), gi_si_ne (by omega), gi_si_ne (by omega), gi_si_ne (by omega), gi_si_ne (by omega), gi_si_ne (by omega), gi_si_ne (by omega), hR.r0.n18 hv]
    rw [e2, ixs1]
  unfold fdW
  have o : ∀ i : Nat, i ≠ 18 → i ≠ 90 + 5 * K → (i < 130 + 11 * nF w ∨ 134 + 11 * nF w ≤ i) → upd (upd (upd (upd (upd (upd w (130 + 11 * nF w) (I K)) (131 + 11 * nF w) (I X)) (132 + 11 * nF w) (I P)) (133 + 11 * nF w) M) (90 + 5 * K) (w (90 + 5 * K) + I P)) 18 (I (nF w + 1)) i = w i := fun i h1 h2 h3 => by rw [upd_ne h1, upd_ne h2, upd_ne (by omega), upd_ne (by omega), upd_ne (by omega), upd_ne (by omega)]
  have e18 : upd (upd (upd (upd (upd (upd w (130 + 11 * nF w) (I K)) (131 + 11 * nF w) (I X)) (132 + 11 * nF w) (I P)) (133 + 11 * nF w) M) (90 + 5 * K) (w (90 + 5 * K) + I P)) 18 (I (nF w + 1)) 18 = I (nF w + 1) := upd_eq _ _ _
  have eB : upd (upd (upd (upd (upd (upd w (130 + 11 * nF w) (I K)) (131 + 11 * nF w) (I X)) (132 + 11 * nF w) (I P)) (133 + 11 * nF w) M) (90 + 5 * K) (w (90 + 5 * K) + I P)) 18 (I (nF w + 1)) (90 + 5 * K) = w (90 + 5 * K) + I P := by rw [upd_ne (by omega), upd_eq]
  have b0 : upd (upd (upd (upd (upd (upd w (130 + 11 * nF w) (I K)) (131 + 11 * nF w) (I X)) (132 + 11 * nF w) (I P)) (133 + 11 * nF w) M) (90 + 5 * K) (w (90 + 5 * K) + I P)) 18 (I (nF w + 1)) (130 + 11 * nF w) = I K := by rw [upd_ne (by omega), upd_ne (by omega), upd_ne (by omega), upd_ne (by omega), upd_ne (by omega), upd_eq]
  have b1 : upd (upd (upd (upd (upd (upd w (130 + 11 * nF w) (I K)) (131 + 11 * nF w) (I X)) (132 + 11 * nF w) (I P)) (133 + 11 * nF w) M) (90 + 5 * K) (w (90 + 5 * K) + I P)) 18 (I (nF w + 1)) (131 + 11 * nF w) = I X := by rw [upd_ne (by omega), upd_ne (by omega), upd_ne (by omega), upd_ne (by omega), upd_eq]
  have b2 : upd (upd (upd (upd (upd (upd w (130 + 11 * nF w) (I K)) (131 + 11 * nF w) (I X)) (132 + 11 * nF w) (I P)) (133 + 11 * nF w) M) (90 + 5 * K) (w (90 + 5 * K) + I P)) 18 (I (nF w + 1)) (132 + 11 * nF w) = I P := by rw [upd_ne (by omega), upd_ne (by omega), upd_ne (by omega), upd_eq]
  have b3 : upd (upd (upd (upd (upd (upd w (130 + 11 * nF w) (I K)) (131 + 11 * nF w) (I X)) (132 + 11 * nF w) (I P)) (133 + 11 * nF w) M) (90 + 5 * K) (w (90 + 5 * K) + I P)) 18 (I (nF w + 1)) (133 + 11 * nF w) = M := by rw [upd_ne (by omega), upd_ne (by omega), upd_eq]
  generalize upd (upd (upd (upd (upd (upd w (130 + 11 * nF w) (I K)) (131 + 11 * nF w) (I X)) (132 + 11 * nF w) (I P)) (133 + 11 * nF w) M) (90 + 5 * K) (w (90 + 5 * K) + I P)) 18 (I (nF w + 1)) = w' at o e18 eB b0 b1 b2 b3 ⊢
  have g : ∀ q k : Nat, (q ≠ 4 + nF w) → (q ≠ 24 ∨ k ≠ 6) → (q ≠ 30 ∨ k ≠ K) → gi (si (si (si (si (si (si (si (si (si (si m (4 + nF w) 0 (I K)) (4 + nF w) 1 (I X)) (4 + nF w) 2 (I P)) (4 + nF w) 3 M) (4 + nF w) 4 0) (4 + nF w) 6 0) (4 + nF w) 7 0) (4 + nF w) 8 0) 30 K (w (90 + 5 * K) + I P)) 24 6 (I (nF w + 1))) q k = gi m q k := fun q k h1 h2 h3 => by
    rw [gi_si_ne (by omega), gi_si_ne (by omega), gi_si_ne (by omega), gi_si_ne (by omega), gi_si_ne (by omega), gi_si_ne (by omega), gi_si_ne (by omega), gi_si_ne (by omega), gi_si_ne (by omega), gi_si_ne (by omega)]
  have gF : ∀ j : Nat, j < 8 → gi (si (si (si (si (si (si (si (si (si (si m (4 + nF w) 0 (I K)) (4 + nF w) 1 (I X)) (4 + nF w) 2 (I P)) (4 + nF w) 3 M) (4 + nF w) 4 0) (4 + nF w) 6 0) (4 + nF w) 7 0) (4 + nF w) 8 0) 30 K (w (90 + 5 * K) + I P)) 24 6 (I (nF w + 1))) (4 + nF w) (fj j) = if j = 0 then I K else if j = 1 then I X else if j = 2 then I P else if j = 3 then M else 0 := fun j hj => by
    rw [gi_si_ne (by omega), gi_si_ne (by omega)]
    have : j = 0 ∨ j = 1 ∨ j = 2 ∨ j = 3 ∨ j = 4 ∨ j = 5 ∨ j = 6 ∨ j = 7 := by omega
    rcases this with rfl | rfl | rfl | rfl | rfl | rfl | rfl | rfl
    · rw [show fj 0 = 0 from rfl, gi_si_ne (by omega), gi_si_ne (by omega), gi_si_ne (by omega), gi_si_ne (by omega), gi_si_ne (by omega), gi_si_ne (by omega), gi_si_ne (by omega), gi_si_eq]
      rfl
    · rw [show fj 1 = 1 from rfl, gi_si_ne (by omega), gi_si_ne (by omega), gi_si_ne (by omega), gi_si_ne (by omega), gi_si_ne (by omega), gi_si_ne (by omega), gi_si_eq]
      rfl
    · rw [show fj 2 = 2 from rfl, gi_si_ne (by omega), gi_si_ne (by omega), gi_si_ne (by omega), gi_si_ne (by omega), gi_si_ne (by omega), gi_si_eq]
      rfl
    · rw [show fj 3 = 3 from rfl, gi_si_ne (by omega), gi_si_ne (by omega), gi_si_ne (by omega), gi_si_ne (by omega), gi_si_eq]
      rfl
    · rw [show fj 4 = 4 from rfl, gi_si_ne (by omega), gi_si_ne (by omega), gi_si_ne (by omega), gi_si_eq]
      rfl
    · rw [show fj 5 = 6 from rfl, gi_si_ne (by omega), gi_si_ne (by omega), gi_si_eq]
      rfl
    · rw [show fj 6 = 7 from rfl, gi_si_ne (by omega), gi_si_eq]
      rfl
    · rw [show fj 7 = 8 from rfl, gi_si_eq]
      rfl
  have g6 : gi (si (si (si (si (si (si (si (si (si (si m (4 + nF w) 0 (I K)) (4 + nF w) 1 (I X)) (4 + nF w) 2 (I P)) (4 + nF w) 3 M) (4 + nF w) 4 0) (4 + nF w) 6 0) (4 + nF w) 7 0) (4 + nF w) 8 0) 30 K (w (90 + 5 * K) + I P)) 24 6 (I (nF w + 1))) 24 6 = I (nF w + 1) := gi_si_eq _ _ _ _
  have gB : gi (si (si (si (si (si (si (si (si (si (si m (4 + nF w) 0 (I K)) (4 + nF w) 1 (I X)) (4 + nF w) 2 (I P)) (4 + nF w) 3 M) (4 + nF w) 4 0) (4 + nF w) 6 0) (4 + nF w) 7 0) (4 + nF w) 8 0) 30 K (w (90 + 5 * K) + I P)) 24 6 (I (nF w + 1))) 30 K = w (90 + 5 * K) + I P := by rw [gi_si_ne (by omega), gi_si_eq]
  have gL : ∀ q k : Nat, gl (si (si (si (si (si (si (si (si (si (si m (4 + nF w) 0 (I K)) (4 + nF w) 1 (I X)) (4 + nF w) 2 (I P)) (4 + nF w) 3 M) (4 + nF w) 4 0) (4 + nF w) 6 0) (4 + nF w) 7 0) (4 + nF w) 8 0) 30 K (w (90 + 5 * K) + I P)) 24 6 (I (nF w + 1))) q k = gl m q k := fun _ _ => rfl
  generalize si (si (si (si (si (si (si (si (si (si m (4 + nF w) 0 (I K)) (4 + nF w) 1 (I X)) (4 + nF w) 2 (I P)) (4 + nF w) 3 M) (4 + nF w) 4 0) (4 + nF w) 6 0) (4 + nF w) 7 0) (4 + nF w) 8 0) 30 K (w (90 + 5 * K) + I P)) 24 6 (I (nF w + 1)) = m' at hm g gF g6 gB gL
  have eF : nF w' = nF w + 1 := tncI e18 (by omega)
  have eS := nS_e (o 15 (by omega) (by omega) (by omega))
  have eT := nT_e (o 16 (by omega) (by omega) (by omega))
  have eK := nK_e (o 17 (by omega) (by omega) (by omega))
  have eP := nP_e (o 19 (by omega) (by omega) (by omega))
  have eQ := nQ_e (o 20 (by omega) (by omega) (by omega))
  have eL := nL_e (o 28 (by omega) (by omega) (by omega))
  have b4 : ∀ j : Nat, 4 ≤ j → j < 8 → w' (130 + 11 * nF w + j) = 0 := fun j h1 h2 => by rw [o _ (by omega) (by omega) (by omega)]; exact z2 (nF w) j (Nat.le_refl _) h10 h1 h2
  have ew : wt w' (nF w) = 0 := by
    unfold wt
    rw [show 134 + 11 * nF w = 130 + 11 * nF w + 4 by omega, b4 4 (by omega) (by omega)]
    rfl
  have ewt : ∀ f : Nat, f < nF w → wt w' f = wt w f := fun f hf => by
    unfold wt
    rw [o _ (by omega) (by omega) (by omega)]
  refine ⟨m', hm, hR.of0 ?_ (fun a => g 50 a (by omega) (by omega) (by omega)) (fun i h1 h2 => o i (by omega) (by omega) (by omega)) ?_, ?_⟩
  · refine hR.r0.fFeed (fun q k hq => g q k (by omega) (by omega) (by omega)) (fun q k _ => gL q k) (fun i hi => o i (by omega) (by omega) (by omega)) ?_ (g6.trans e18.symm) (fun k c hk hc => ?_) (fun f j hf hj => ?_) (fun f k hf hk => ?_)
    · rw [eS, eT, eK, eF, eP, eQ, eL]
      refine ⟨v1, v2, v3, by omega, v5, v6, v7, fun f hf => ?_⟩
      by_cases c : f = nF w
      · subst c
        omega
      · rw [ewt f (by omega)]
        exact v8 f (by omega)
    · by_cases e : k = K ∧ c = 0
      · obtain ⟨rfl, rfl⟩ := e
        rw [show 90 + 5 * k + 0 = 90 + 5 * k from rfl, show 30 + 0 = 30 from rfl, gB, eB]
      · rw [g (30 + c) k (by omega) (by omega) (by omega), o _ (by omega) (by omega) (by omega)]
        exact hR.r0.bk k c hk hc
    · rw [eF] at hf
      by_cases c : f = nF w
      · subst c
        rw [gF j hj]
        have : j = 0 ∨ j = 1 ∨ j = 2 ∨ j = 3 ∨ 4 ≤ j := by omega
        rcases this with rfl | rfl | rfl | rfl | h4
        · exact b0.symm
        · rw [show 130 + 11 * nF w + 1 = 131 + 11 * nF w by omega]
          exact b1.symm
        · rw [show 130 + 11 * nF w + 2 = 132 + 11 * nF w by omega]
          exact b2.symm
        · rw [show 130 + 11 * nF w + 3 = 133 + 11 * nF w by omega]
          exact b3.symm
        · rw [if_neg (by omega), if_neg (by omega), if_neg (by omega), if_neg (by omega), b4 j h4 hj]
      · rw [g (4 + f) (fj j) (by omega) (by omega) (by omega), o _ (by omega) (by omega) (by omega)]
        exact hR.r0.fd f j (by omega) hj
    · rw [eF] at hf
      by_cases c : f = nF w
      · subst c
        omega
      · rw [ewt f (by omega)] at hk
        have := v8 f (by omega)
        rw [g (14 + f) k (by omega) (by omega) (by omega), o _ (by omega) (by omega) (by omega)]
        exact hR.r0.re f k (by omega) hk
  · refine hv.gr ?_ (fun i hi => o i (by omega) (by omega) (by omega)) eS (by omega) (by omega) (fun f hf => ?_) (fun k hk => ?_) (fun k hk => ?_) (hv.pr.gr v6 eQ (by omega) (fun i h1 h2 => o i (by omega) (by omega) (by omega))) v1
    · rw [eS, eT, eK, eF, eP, eQ, eL, o 15 (by omega) (by omega) (by omega), o 16 (by omega) (by omega) (by omega), o 17 (by omega) (by omega) (by omega), o 19 (by omega) (by omega) (by omega), o 20 (by omega) (by omega) (by omega), o 28 (by omega) (by omega) (by omega)]
      exact ⟨c1, c2, c3, e18, c5, c6, c7⟩
    · rw [eF] at hf
      rw [eK]
      by_cases c : f = nF w
      · subst c
        refine ⟨⟨K, hK, b0⟩, ⟨P, hP, ?_⟩, ⟨0, by omega, b4 4 (by omega) (by omega), fun j hj => by omega⟩, Or.inl (b4 7 (by omega) (by omega)), ⟨X, hX, ?_⟩⟩
        · show w' (130 + 11 * nF w + 2) = _
          rw [show 130 + 11 * nF w + 2 = 132 + 11 * nF w by omega, b2]
        · show w' (130 + 11 * nF w + 1) = _
          rw [show 130 + 11 * nF w + 1 = 131 + 11 * nF w by omega, b1]
      · exact (hv.fd f (by omega)).cg (fun j hj => o _ (by omega) (by omega) (by omega))
    · rw [eK] at hk
      rw [eT, o _ (by omega) (by omega) (by omega)]
      exact hv.nz k hk
    · rw [eP] at hk
      rw [eK]
      exact (hv.st k hk).cg (fun j hj => o _ (by omega) (by omega) (by omega))
  · refine ⟨by rw [o 23 (by omega) (by omega) (by omega)]; exact z1, fun f j h1 h2 h3 h4 => by rw [o _ (by omega) (by omega) (by omega)]; exact z2 f j (by omega) h2 h3 h4, fun k h1 h2 => ?_⟩
    rw [o _ (by omega) (by omega) (by omega), o _ (by omega) (by omega) (by omega), o _ (by omega) (by omega) (by omega)]
    exact z3 k (by omega) h2
/-- the row with a spot more -/
def stW (w : Nat → Int32) (P K : Nat) (X Y : Int32) : Nat → Int32 := upd (upd (upd (upd w (240 + 6 * P) (I K)) (241 + 6 * P) X) (242 + 6 * P) Y) 19 (I (P + 1))
theorem spot_R {m : MM} {w : Nat → Int32} (hR : R m w) (hz : Zr w) (h40 : nP w < 40) {K : Nat} (hK : K < nK w) {X Y : Nat} (hX : X ≤ 999) (hY : Y ≤ 999) : ∃ m' : MM, D_X0_addSpot (I K) (I X) (I Y) m = some m' ∧ R m' (stW w (nP w) K (I X) (I Y)) ∧ Zr (stW w (nP w) K (I X) (I Y)) := by
  obtain ⟨v1, v2, v3, v4, v5, v6, v7, v8⟩ := hR.r0.vc
  have hv := hR.v
  obtain ⟨c1, c2, c3, c4, c5, c6, c7⟩ := hv.cnt
  obtain ⟨z1, z2, z3⟩ := hz
  obtain ⟨y1, y2, y3⟩ := z3 (nP w) (Nat.le_refl _) h40
  have hm : D_X0_addSpot (I K) (I X) (I Y) m = some (si (sl (sl (si (si (si m 37 (nP w) (I K)) 38 (nP w) (I X)) 39 (nP w) (I Y)) 42 K (gl m 42 K ||| ((1 : Int64) <<< ((I (nP w)).toInt64 &&& 63)))) 36 7 (gl m 36 7 ||| ((1 : Int64) <<< ((I (nP w)).toInt64 &&& 63)))) 36 0 (I (nP w + 1))) := by
    unfold D_X0_addSpot
    rw [hR.r0.n19 hv, if_neg (show ¬ (40 : Int32) ≤ I (nP w) from leF (a := 40) h40 (by omega)), gdI (by omega) (by omega), bnd_s, gi_si_ne (by omega), hR.r0.n19 hv, gdI (by omega) (by omega), bnd_s, gi_si_ne (by omega), gi_si_ne (by omega), hR.r0.n19 hv, gdI (by omega) (by omega), bnd_s, gdI (by omega) (by omega), gdI (by omega) (by omega), bnd_s, bnd_s, bnd_s, I_tnc (by omega), I_tnc (by omega), gi_sl, gi_sl, gi_sl, gi_si_ne (by omega), gi_si_ne (by omega), gi_si_ne (by omega), hR.r0.n19 hv, gl_sl_ne (by omega), gl_si, gl_si, gl_si, gl_si, gl_si, gl_si, ixs1]
  unfold stW
  have o : ∀ i : Nat, i ≠ 19 → (i < 240 + 6 * nP w ∨ 243 + 6 * nP w ≤ i) → upd (upd (upd (upd w (240 + 6 * nP w) (I K)) (241 + 6 * nP w) (I X)) (242 + 6 * nP w) (I Y)) 19 (I (nP w + 1)) i = w i := fun i h1 h2 => by rw [upd_ne h1, upd_ne (by omega), upd_ne (by omega), upd_ne (by omega)]
  have e19 : upd (upd (upd (upd w (240 + 6 * nP w) (I K)) (241 + 6 * nP w) (I X)) (242 + 6 * nP w) (I Y)) 19 (I (nP w + 1)) 19 = I (nP w + 1) := upd_eq _ _ _
  have b0 : upd (upd (upd (upd w (240 + 6 * nP w) (I K)) (241 + 6 * nP w) (I X)) (242 + 6 * nP w) (I Y)) 19 (I (nP w + 1)) (240 + 6 * nP w) = I K := by rw [upd_ne (by omega), upd_ne (by omega), upd_ne (by omega), upd_eq]
  have b1 : upd (upd (upd (upd w (240 + 6 * nP w) (I K)) (241 + 6 * nP w) (I X)) (242 + 6 * nP w) (I Y)) 19 (I (nP w + 1)) (241 + 6 * nP w) = I X := by rw [upd_ne (by omega), upd_ne (by omega), upd_eq]
  have b2 : upd (upd (upd (upd w (240 + 6 * nP w) (I K)) (241 + 6 * nP w) (I X)) (242 + 6 * nP w) (I Y)) 19 (I (nP w + 1)) (242 + 6 * nP w) = I Y := by rw [upd_ne (by omega), upd_eq]
  generalize upd (upd (upd (upd w (240 + 6 * nP w) (I K)) (241 + 6 * nP w) (I X)) (242 + 6 * nP w) (I Y)) 19 (I (nP w + 1)) = w' at o e19 b0 b1 b2 ⊢
  have g : ∀ q k : Nat, (q ≠ 36 ∨ k ≠ 0) → ((q ≠ 37 ∧ q ≠ 38 ∧ q ≠ 39) ∨ k ≠ nP w) → gi (si (sl (sl (si (si (si m 37 (nP w) (I K)) 38 (nP w) (I X)) 39 (nP w) (I Y)) 42 K (gl m 42 K ||| ((1 : Int64) <<< ((I (nP w)).toInt64 &&& 63)))) 36 7 (gl m 36 7 ||| ((1 : Int64) <<< ((I (nP w)).toInt64 &&& 63)))) 36 0 (I (nP w + 1))) q k = gi m q k := fun q k h1 h2 => by
    rw [gi_si_ne (by omega), gi_sl, gi_sl, gi_si_ne (by omega), gi_si_ne (by omega), gi_si_ne (by omega)]
  have g0 : gi (si (sl (sl (si (si (si m 37 (nP w) (I K)) 38 (nP w) (I X)) 39 (nP w) (I Y)) 42 K (gl m 42 K ||| ((1 : Int64) <<< ((I (nP w)).toInt64 &&& 63)))) 36 7 (gl m 36 7 ||| ((1 : Int64) <<< ((I (nP w)).toInt64 &&& 63)))) 36 0 (I (nP w + 1))) 36 0 = I (nP w + 1) := gi_si_eq _ _ _ _
  have g7 : gi (si (sl (sl (si (si (si m 37 (nP w) (I K)) 38 (nP w) (I X)) 39 (nP w) (I Y)) 42 K (gl m 42 K ||| ((1 : Int64) <<< ((I (nP w)).toInt64 &&& 63)))) 36 7 (gl m 36 7 ||| ((1 : Int64) <<< ((I (nP w)).toInt64 &&& 63)))) 36 0 (I (nP w + 1))) 37 (nP w) = I K := by rw [gi_si_ne (by omega), gi_sl, gi_sl, gi_si_ne (by omega), gi_si_ne (by omega), gi_si_eq]
  have g8 : gi (si (sl (sl (si (si (si m 37 (nP w) (I K)) 38 (nP w) (I X)) 39 (nP w) (I Y)) 42 K (gl m 42 K ||| ((1 : Int64) <<< ((I (nP w)).toInt64 &&& 63)))) 36 7 (gl m 36 7 ||| ((1 : Int64) <<< ((I (nP w)).toInt64 &&& 63)))) 36 0 (I (nP w + 1))) 38 (nP w) = I X := by rw [gi_si_ne (by omega), gi_sl, gi_sl, gi_si_ne (by omega), gi_si_eq]
  have g9 : gi (si (sl (sl (si (si (si m 37 (nP w) (I K)) 38 (nP w) (I X)) 39 (nP w) (I Y)) 42 K (gl m 42 K ||| ((1 : Int64) <<< ((I (nP w)).toInt64 &&& 63)))) 36 7 (gl m 36 7 ||| ((1 : Int64) <<< ((I (nP w)).toInt64 &&& 63)))) 36 0 (I (nP w + 1))) 39 (nP w) = I Y := by rw [gi_si_ne (by omega), gi_sl, gi_sl, gi_si_eq]
  have L8 : gl (si (sl (sl (si (si (si m 37 (nP w) (I K)) 38 (nP w) (I X)) 39 (nP w) (I Y)) 42 K (gl m 42 K ||| ((1 : Int64) <<< ((I (nP w)).toInt64 &&& 63)))) 36 7 (gl m 36 7 ||| ((1 : Int64) <<< ((I (nP w)).toInt64 &&& 63)))) 36 0 (I (nP w + 1))) 36 8 = gl m 36 8 := by rw [gl_si, gl_sl_ne (by omega), gl_sl_ne (by omega), gl_si, gl_si, gl_si]
  have L7 : gl (si (sl (sl (si (si (si m 37 (nP w) (I K)) 38 (nP w) (I X)) 39 (nP w) (I Y)) 42 K (gl m 42 K ||| ((1 : Int64) <<< ((I (nP w)).toInt64 &&& 63)))) 36 7 (gl m 36 7 ||| ((1 : Int64) <<< ((I (nP w)).toInt64 &&& 63)))) 36 0 (I (nP w + 1))) 36 7 = gl m 36 7 ||| ((1 : Int64) <<< ((I (nP w)).toInt64 &&& 63)) := by rw [gl_si, gl_sl_eq]
  have LK : ∀ c : Nat, gl (si (sl (sl (si (si (si m 37 (nP w) (I K)) 38 (nP w) (I X)) 39 (nP w) (I Y)) 42 K (gl m 42 K ||| ((1 : Int64) <<< ((I (nP w)).toInt64 &&& 63)))) 36 7 (gl m 36 7 ||| ((1 : Int64) <<< ((I (nP w)).toInt64 &&& 63)))) 36 0 (I (nP w + 1))) 42 c = if c = K then gl m 42 K ||| ((1 : Int64) <<< ((I (nP w)).toInt64 &&& 63)) else gl m 42 c := fun c => by
    rw [gl_si, gl_sl_ne (by omega), gl_sl]
    by_cases e : c = K
    · rw [if_pos ⟨rfl, e⟩, if_pos e]
    · rw [if_neg (fun z => e z.2), if_neg e]
      rfl
  have gL : ∀ q k : Nat, q ≠ 42 ∧ q ≠ 36 → gl (si (sl (sl (si (si (si m 37 (nP w) (I K)) 38 (nP w) (I X)) 39 (nP w) (I Y)) 42 K (gl m 42 K ||| ((1 : Int64) <<< ((I (nP w)).toInt64 &&& 63)))) 36 7 (gl m 36 7 ||| ((1 : Int64) <<< ((I (nP w)).toInt64 &&& 63)))) 36 0 (I (nP w + 1))) q k = gl m q k := fun q k hq => by
    rw [gl_si, gl_sl_ne (by omega), gl_sl_ne (by omega), gl_si, gl_si, gl_si]
  generalize si (sl (sl (si (si (si m 37 (nP w) (I K)) 38 (nP w) (I X)) 39 (nP w) (I Y)) 42 K (gl m 42 K ||| ((1 : Int64) <<< ((I (nP w)).toInt64 &&& 63)))) 36 7 (gl m 36 7 ||| ((1 : Int64) <<< ((I (nP w)).toInt64 &&& 63)))) 36 0 (I (nP w + 1)) = m' at hm g g0 g7 g8 g9 L8 L7 LK gL
  have eP : nP w' = nP w + 1 := tncI e19 (by omega)
  have eS := nS_e (o 15 (by omega) (by omega))
  have eT := nT_e (o 16 (by omega) (by omega))
  have eK := nK_e (o 17 (by omega) (by omega))
  have eF := nF_e (o 18 (by omega) (by omega))
  have eQ := nQ_e (o 20 (by omega) (by omega))
  have eL := nL_e (o 28 (by omega) (by omega))
  have s3 : w' (243 + 6 * nP w) = 0 := by
    rw [o _ (by omega) (by omega), show 243 + 6 * nP w = 240 + 6 * nP w + 3 by omega]
    exact y1
  refine ⟨m', hm, hR.of0 ?_ (fun a => g 50 a (by omega) (by omega)) (fun i h1 h2 => o i (by omega) (by omega)) ?_, ?_⟩
  · refine hR.r0.fSpot (fun q k hq => g q k (by omega) (by omega)) gL (fun i hi => o i (by omega) (by omega)) ?_ (g0.trans e19.symm) (fun k hk => ?_) (fun k hk => ?_) (fun k hk => ?_) (fun k hk => ?_) (fun c k hc hk => ?_)
    · rw [eS, eT, eK, eF, eP, eQ, eL]
      refine ⟨v1, v2, v3, v4, by omega, v6, v7, fun f hf => ?_⟩
      unfold wt
      rw [o _ (by omega) (by omega)]
      exact v8 f hf
    · rw [eP] at hk
      by_cases c : k = nP w
      · subst c
        exact ⟨g7.trans b0.symm, g8.trans b1.symm, g9.trans b2.symm⟩
      · rw [g 37 k (by omega) (by omega), g 38 k (by omega) (by omega), g 39 k (by omega) (by omega), o _ (by omega) (by omega), o _ (by omega) (by omega), o _ (by omega) (by omega)]
        exact hR.r0.st k (by omega)
    · rw [L7, tb_or, tb_bit (by omega), hR.r0.op k hk, eP]
      by_cases c : k = nP w
      · subst c
        rw [s3, decide_eq_true (show nP w = nP w from rfl), Bool.or_true]
        exact (decide_eq_true ⟨by omega, rfl⟩).symm
      · rw [decide_eq_false c, Bool.or_false]
        by_cases d : k < nP w
        · rw [o _ (by omega) (by omega)]
          exact decide_eq_decide.mpr ⟨fun z => ⟨by omega, z.2⟩, fun z => ⟨d, z.2⟩⟩
        · exact decide_eq_decide.mpr ⟨fun z => absurd z.1 d, fun z => by omega⟩
    · rw [L8, hR.r0.fl k hk, eP]
      by_cases c : k = nP w
      · subst c
        rw [s3]
        exact decide_eq_decide.mpr ⟨fun z => absurd z.1 (Nat.lt_irrefl _), fun z => absurd z.2 (by decide)⟩
      · by_cases d : k < nP w
        · rw [o _ (by omega) (by omega)]
          exact decide_eq_decide.mpr ⟨fun z => ⟨by omega, z.2⟩, fun z => ⟨d, z.2⟩⟩
        · exact decide_eq_decide.mpr ⟨fun z => absurd z.1 d, fun z => by omega⟩
    · rw [eP] at hk
      by_cases c : k = nP w
      · subst c
        rw [s3, if_neg (by decide), if_neg (by decide), o _ (by omega) (by omega), o _ (by omega) (by omega), show 244 + 6 * nP w = 240 + 6 * nP w + 4 by omega, show 245 + 6 * nP w = 240 + 6 * nP w + 5 by omega]
        exact ⟨y2, y3⟩
      · rw [g 40 k (by omega) (by omega), g 41 k (by omega) (by omega), o _ (by omega) (by omega), o _ (by omega) (by omega), o _ (by omega) (by omega)]
        exact hR.r0.ta k (by omega)
    · rw [LK, eP]
      have q0 := hR.r0.kd c k hc hk
      by_cases d : k = nP w
      · subst d
        rw [b0]
        by_cases e : c = K
        · subst e
          rw [if_pos rfl, tb_or, tb_bit (by omega), decide_eq_true (show nP w = nP w from rfl), Bool.or_true]
          exact (decide_eq_true ⟨by omega, rfl⟩).symm
        · rw [if_neg e, q0]
          exact decide_eq_decide.mpr ⟨fun z => absurd z.1 (Nat.lt_irrefl _), fun z => absurd ((I_inj (by omega) (by omega)).mp z.2) (fun y => e y.symm)⟩
      · have t1 : tb (if c = K then gl m 42 K ||| ((1 : Int64) <<< ((I (nP w)).toInt64 &&& 63)) else gl m 42 c) k = tb (gl m 42 c) k := by
          by_cases e : c = K
          · subst e
            rw [if_pos rfl, tb_or, tb_bit (by omega), decide_eq_false d, Bool.or_false]
          · rw [if_neg e]
        rw [t1, q0]
        by_cases f : k < nP w
        · rw [o _ (by omega) (by omega)]
          exact decide_eq_decide.mpr ⟨fun z => ⟨by omega, z.2⟩, fun z => ⟨f, z.2⟩⟩
        · exact decide_eq_decide.mpr ⟨fun z => absurd z.1 f, fun z => by omega⟩
  · refine hv.gr ?_ (fun i hi => o i (by omega) (by omega)) eS (by omega) (by omega) (fun f hf => ?_) (fun k hk => ?_) (fun k hk => ?_) (hv.pr.gr v6 eQ (by omega) (fun i h1 h2 => o i (by omega) (by omega))) v1
    · rw [eS, eT, eK, eF, eP, eQ, eL, o 15 (by omega) (by omega), o 16 (by omega) (by omega), o 17 (by omega) (by omega), o 18 (by omega) (by omega), o 20 (by omega) (by omega), o 28 (by omega) (by omega)]
      exact ⟨c1, c2, c3, c4, e19, c6, c7⟩
    · rw [eF] at hf
      rw [eK]
      exact (hv.fd f hf).cg (fun j hj => o _ (by omega) (by omega))
    · rw [eK] at hk
      rw [eT, o _ (by omega) (by omega)]
      exact hv.nz k hk
    · rw [eP] at hk
      rw [eK]
      by_cases c : k = nP w
      · subst c
        refine ⟨⟨K, hK, b0⟩, Or.inl ?_, ⟨X, hX, ?_⟩, ⟨Y, hY, ?_⟩⟩
        · show w' (240 + 6 * nP w + 3) = 0
          rw [show 240 + 6 * nP w + 3 = 243 + 6 * nP w by omega]
          exact s3
        · show w' (240 + 6 * nP w + 1) = _
          rw [show 240 + 6 * nP w + 1 = 241 + 6 * nP w by omega]
          exact b1
        · show w' (240 + 6 * nP w + 2) = _
          rw [show 240 + 6 * nP w + 2 = 242 + 6 * nP w by omega]
          exact b2
      · exact (hv.st k (by omega)).cg (fun j hj => o _ (by omega) (by omega))
  · refine ⟨by rw [o 23 (by omega) (by omega)]; exact z1, fun f j h1 h2 h3 h4 => by rw [o _ (by omega) (by omega)]; exact z2 f j (by omega) h2 h3 h4, fun k h1 h2 => ?_⟩
    rw [o _ (by omega) (by omega), o _ (by omega) (by omega), o _ (by omega) (by omega)]
    exact z3 k (by omega) h2
theorem set_R {m : MM} {w : Nat → Int32} (hR : R m w) (hz : Zr w) {k n : Nat} (hk : k < 15) (h0 : k = 0 → 1 ≤ n ∧ n ≤ 50) (h1 : (k = 1 ∨ k = 2 ∨ k = 3 ∨ k = 4 ∨ k = 14) → n ≤ 200) (h2 : k = 8 ∨ k = 9 → n ≤ 999) : R (si m 25 k (I n)) (upd w k (I n)) ∧ Zr (upd w k (I n)) := by
  obtain ⟨v1, v2, v3, v4, v5, v6, v7, v8⟩ := hR.r0.vc
  have hv := hR.v
  have o : ∀ i : Nat, i ≠ k → upd w k (I n) i = w i := fun i hi => upd_ne hi
  have eF := nF_e (w := w) (w' := upd w k (I n)) (o 18 (by omega))
  have eP := nP_e (w := w) (w' := upd w k (I n)) (o 19 (by omega))
  refine ⟨⟨⟨hR.r0.wSet hk _, fun a ha => ?_⟩, ?_⟩, ?_⟩
  · show gi (si m 25 k (I n)) 50 a = upd w k (I n) (37 + a)
    rw [gi_si_ne (by omega), upd_ne (by omega)]
    exact hR.1.2 a ha
  · obtain ⟨g1, g2, g3, g4, g5, g6⟩ := hv.vg
    have hg : Vg (upd w k (I n)) := by
      refine ⟨?_, fun j hj => ?_, ?_, ?_, by rw [o 21 (by omega)]; exact g5, by rw [o 22 (by omega)]; exact g6⟩
      · by_cases e : k = 0
        · subst e
          exact ⟨n, (h0 rfl).1, (h0 rfl).2, upd_eq _ _ _⟩
        · rw [o 0 (by omega)]
          exact g1
      · by_cases e : j = k
        · subst e
          exact ⟨n, h1 (by omega), upd_eq _ _ _⟩
        · rw [o j e]
          exact g2 j hj
      · by_cases e : k = 8
        · subst e
          exact ⟨n, h2 (by omega), upd_eq _ _ _⟩
        · rw [o 8 (by omega)]
          exact g3
      · by_cases e : k = 9
        · subst e
          exact ⟨n, h2 (by omega), upd_eq _ _ _⟩
        · rw [o 9 (by omega)]
          exact g4
    refine hv.fr (fun i hi => o i (by omega)) hg ?_ (by rw [o 29 (by omega)]; exact hv.hlt) v6 v3 (fun s hs => (hv.sp s hs).cg (fun j hj => o _ (by omega))) (fun f hf => (hv.fd f hf).cg (fun j hj => o _ (by omega))) (fun q hq => (hv.st q hq).cg (fun j hj => o _ (by omega)))
    have e28 := o 28 (by omega)
    rw [nL_e e28, e28]
    exact hv.cnt.2.2.2.2.2.2
  · obtain ⟨z1, z2, z3⟩ := hz
    refine ⟨by rw [o 23 (by omega)]; exact z1, fun f j h1 h2 h3 h4 => by rw [o _ (by omega)]; exact z2 f j (by rw [← eF]; exact h1) h2 h3 h4, fun q h1 h2 => ?_⟩
    rw [o _ (by omega), o _ (by omega), o _ (by omega)]
    exact z3 q (by rw [← eP]; exact h1) h2
