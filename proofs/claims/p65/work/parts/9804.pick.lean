/-! PROPERTY: picking keeps it -/
theorem fsum0 {w : Nat → Int32} {f n : Nat} (h4 : Fb w f 4 = I n) (hn : n ≤ 3) : fsum w f = rS w f n := by
  unfold fsum
  rw [wtb, h4, I_tnc (by omega)]
theorem spx (x : MM) (f nk : Nat) (hf : f < 10) : ∀ (n : Nat) (w : Nat → Int32) (fx : Nat), Fb w f 4 = I n → n ≤ 3 → FdOk nk (Fb w f) → n < fx → ∃ w' : Nat → Int32, D_X10_splices_0 fx (I f) (pw x w) = some (pw x w') ∧ FdOk nk (Fb w' f) ∧ fsum w' f = fsum w f ∧ Fb w' f 0 = Fb w f 0 ∧ (∀ i : Nat, i ≠ 27 → (i < 130 + 11 * f ∨ 141 + 11 * f ≤ i) → w' i = w i) ∧ ∃ c : Nat, c ≤ n ∧ w' 27 = w 27 + I c := by
  intro n
  induction n with
  | zero =>
    intro w fx h4 hn hd hx
    obtain ⟨fx, rfl⟩ : ∃ n' : Nat, fx = n' + 1 := ⟨fx - 1, by omega⟩
    refine ⟨w, ?_, hd, rfl, rfl, fun i _ _ => rfl, 0, Nat.zero_le _, by rw [show I 0 = (0 : Int32) from rfl, Int32.add_zero]⟩
    have h4 : w (130 + 11 * f + 4) = I 0 := h4
    unfold D_X10_splices_0
    rw [oFd2P (by omega), b1_s, oFd4P (by omega), b1_s, h4, if_pos (show I 0 ≤ (0 : Int32) by decide), ite_self]
  | succ n ih =>
    intro w fx h4 hn hd hx
    obtain ⟨fx, rfl⟩ : ∃ n' : Nat, fx = n' + 1 := ⟨fx - 1, by omega⟩
    by_cases hp : w (130 + 11 * f + 2) = 0
    · have hle : ¬ I (n + 1) ≤ (0 : Int32) := fun q => by
        have q2 : I (n + 1) ≤ I 0 := q
        rw [I_le (by omega) (by omega)] at q2
        omega
      have esub : I (n + 1) - (1 : Int32) = I n := by
        rw [show (1 : Int32) = I 1 from rfl, I_sub (by omega)]
        rfl
      obtain ⟨b0, b1, b2, b3, b4, b5, b6, b7, b8, b9⟩ := spW_b (w := w) (f := f)
      have hu : ∀ j : Nat, Fb (upd (spW w f) 27 (w 27 + 1)) f j = Fb (spW w f) f j := fun j => upd_ne (by omega)
      have hd2 : FdOk nk (Fb (upd (spW w f) 27 (w 27 + 1)) f) := by
        obtain ⟨d1, d2, ⟨n', hn', d3, d4⟩, d5, d6⟩ := hd
        have en : n' = n + 1 := (I_inj (by omega) (by omega)).mp (d3.symm.trans h4)
        subst en
        refine ⟨by rw [hu, b0]; exact d1, by rw [hu, b2]; exact d4 0 (by omega), ⟨n, by omega, by rw [hu, b4, h4, esub], fun j hj => ?_⟩, Or.inr (by rw [hu, b7]), by rw [hu, b1]; exact d6⟩
        rw [hu]
        rcases (show j = 0 ∨ j = 1 by omega) with e | e <;> subst e
        · show ∃ p : Nat, p ≤ 500 ∧ Fb (spW w f) f 8 = I p
          rw [b8]; exact d4 1 (by omega)
        · show ∃ p : Nat, p ≤ 500 ∧ Fb (spW w f) f 9 = I p
          rw [b9]; exact d4 2 (by omega)
      obtain ⟨w', g1, g2, g3, g4, g5, c, gc1, gc2⟩ := ih (upd (spW w f) 27 (w 27 + 1)) fx (by rw [hu, b4, h4, esub]) (by omega) hd2 (by omega)
      refine ⟨w', ?_, g2, ?_, by rw [g4, hu, b0], fun i z1 z2 => by rw [g5 i z1 z2, upd_ne z1, spW_lo z2], c + 1, by omega, by rw [gc2, upd_eq, show (1 : Int32) = I 1 from rfl, Int32.add_assoc, I_add, Nat.add_comm 1 c]⟩
      · obtain ⟨fy, hy⟩ : ∃ fy : Nat, FU = fy + 3 := ⟨4997, rfl⟩
        have h4' : w (130 + 11 * f + 4) = I (n + 1) := h4
        generalize some (pw x w') = RR at g1 ⊢
        unfold D_X10_splices_0
        rw [oFd2P (by omega), b1_s, if_pos hp, oFd4P (by omega), b1_s, h4', if_neg hle, oFd8P (by omega), b1_s, poFd2P (by omega), b1_s, hy, sp33_x _ x (by omega)]
        rw [upd_ne (show 27 ≠ 130 + 11 * f + 2 by omega)]
        exact g1
      · rw [g3, fsum0 (n := n) (by rw [hu, b4, h4, esub]) (by omega), fsum0 h4 hn]
        have z0 : (Fb w f 2).toNatClampNeg = 0 := tncI (n := 0) hp (by omega)
        have c2 : (Fb (upd (spW w f) 27 (w 27 + 1)) f 2).toNatClampNeg = (Fb w f 8).toNatClampNeg := by rw [hu, b2]
        have c8 : (Fb (upd (spW w f) 27 (w 27 + 1)) f 8).toNatClampNeg = (Fb w f 9).toNatClampNeg := by rw [hu, b8]
        have c9 : (Fb (upd (spW w f) 27 (w 27 + 1)) f 9).toNatClampNeg = (Fb w f 10).toNatClampNeg := by rw [hu, b9]
        rcases (show n = 0 ∨ n = 1 ∨ n = 2 by omega) with rfl | rfl | rfl
        · show (Fb (upd (spW w f) 27 (w 27 + 1)) f 2).toNatClampNeg = (Fb w f 2).toNatClampNeg + (Fb w f 8).toNatClampNeg
          omega
        · show (Fb (upd (spW w f) 27 (w 27 + 1)) f 2).toNatClampNeg + (Fb (upd (spW w f) 27 (w 27 + 1)) f 8).toNatClampNeg = (Fb w f 2).toNatClampNeg + (Fb w f 8).toNatClampNeg + (Fb w f 9).toNatClampNeg
          omega
        · show (Fb (upd (spW w f) 27 (w 27 + 1)) f 2).toNatClampNeg + (Fb (upd (spW w f) 27 (w 27 + 1)) f 8).toNatClampNeg + (Fb (upd (spW w f) 27 (w 27 + 1)) f 9).toNatClampNeg = (Fb w f 2).toNatClampNeg + (Fb w f 8).toNatClampNeg + (Fb w f 9).toNatClampNeg + (Fb w f 10).toNatClampNeg
          omega
    · refine ⟨w, ?_, hd, rfl, rfl, fun i _ _ => rfl, 0, Nat.zero_le _, by rw [show I 0 = (0 : Int32) from rfl, Int32.add_zero]⟩
      unfold D_X10_splices_0
      rw [oFd2P (by omega), b1_s, if_neg hp]
theorem spx_s (x : MM) {f nk : Nat} (hf : f < 10) {w : Nat → Int32} (hd : FdOk nk (Fb w f)) : ∃ w' : Nat → Int32, D_X10_splices (I f) (pw x w) = some (pw x w') ∧ FdOk nk (Fb w' f) ∧ fsum w' f = fsum w f ∧ Fb w' f 0 = Fb w f 0 ∧ (∀ i : Nat, i ≠ 27 → (i < 130 + 11 * f ∨ 141 + 11 * f ≤ i) → w' i = w i) ∧ ∃ c : Nat, c ≤ 3 ∧ w' 27 = w 27 + I c := by
  obtain ⟨n, hn, h4, -⟩ := hd.2.2.1
  obtain ⟨w', g1, g2, g3, g4, g5, c, c1, c2⟩ := spx x f nk hf n w FU h4 hn hd (by show n < 5000; omega)
  exact ⟨w', g1, g2, g3, g4, g5, c, by omega, c2⟩
/-- the parts of a kind, where one feeder has others -/
theorem inR_one {w w' : Nat → Int32} {f : Nat} {K : Int32} (e0 : w' (130 + 11 * f) = w (130 + 11 * f)) : ∀ n : Nat, (∀ g j : Nat, g < n → g ≠ f → j < 11 → Fb w' g j = Fb w g j) → (∀ g : Nat, g < n → wt w g ≤ 3) → f < n → inR w' K n + (if w (130 + 11 * f) = K then fsum w f else 0) = inR w K n + (if w (130 + 11 * f) = K then fsum w' f else 0) := by
  intro n
  induction n with
  | zero => intro _ _ h; omega
  | succ n ih =>
    intro o h3 h
    by_cases c : f = n
    · subst c
      have e := inR_cg (K := K) (w := w) (w' := w') f (fun g j hg hj => o g j (by omega) (by omega) (by omega)) (fun g hg => h3 g (by omega))
      show (inR w' K f + (if w' (130 + 11 * f) = K then fsum w' f else 0)) + _ = (inR w K f + (if w (130 + 11 * f) = K then fsum w f else 0)) + _
      rw [e, e0]
      omega
    · have i1 := ih (fun g j hg hn hj => o g j (by omega) hn hj) (fun g hg => h3 g (by omega)) (by omega)
      have e1 : w' (130 + 11 * n) = w (130 + 11 * n) := o n 0 (by omega) (by omega) (by omega)
      have ew : fsum w' n = fsum w n := by
        have q := inR_cg (K := w (130 + 11 * n)) (w := fun i => w (i + 11 * n)) (w' := fun i => w' (i + 11 * n)) 1 (fun g j hg hj => by
          have : g = 0 := by omega
          subst this
          show w' (130 + 11 * 0 + j + 11 * n) = w (130 + 11 * 0 + j + 11 * n)
          rw [show 130 + 11 * 0 + j + 11 * n = 130 + 11 * n + j by omega]
          exact o n j (by omega) (by omega) (by omega)) (fun g hg => by
          have : g = 0 := by omega
          subst this
          show (w (134 + 11 * 0 + 11 * n)).toNatClampNeg ≤ 3
          rw [show 134 + 11 * 0 + 11 * n = 134 + 11 * n by omega]
          exact h3 n (by omega))
        have er : ∀ k : Nat, k ≤ 3 → rS w' n k = rS w n k := by
          intro k
          induction k with
          | zero =>
            intro _
            show (Fb w' n 2).toNatClampNeg = (Fb w n 2).toNatClampNeg
            rw [o n 2 (by omega) (by omega) (by omega)]
          | succ k ihk =>
            intro hk
            show rS w' n k + (Fb w' n (8 + k)).toNatClampNeg = rS w n k + (Fb w n (8 + k)).toNatClampNeg
            rw [ihk (by omega), o n (8 + k) (by omega) (by omega) (by omega)]
        have eww : wt w' n = wt w n := by rw [wtb, wtb, o n 4 (by omega) (by omega) (by omega)]
        unfold fsum
        rw [eww, er _ (h3 n (by omega))]
      show (inR w' K n + (if w' (130 + 11 * n) = K then fsum w' n else 0)) + _ = (inR w K n + (if w (130 + 11 * n) = K then fsum w n else 0)) + _
      rw [e1, ew]
      omega
/-- a part leaves a reel of feeder f: for the spindle (b = 0), or lost (b = 1) -/
theorem inv_take {N : Nat → Nat} {e : Int32} {w w' : Nat → Int32} (h : Inv N e w) (hb : Bd w) {s f K b : Nat} (hs : s < nS w) (hf : f < nF w) (hK : K < nK w) (hk : w (130 + 11 * f) = I K) (hk' : w' (130 + 11 * f) = I K) (h1 : w (58 + 8 * s + 1) = -1) (hfit : w (58 + 8 * s) = w (50 + K)) (hsum : fsum w' f + 1 = fsum w f) (hbb : b = 0 ∧ w' (58 + 8 * s + 1) = I K ∧ w' (90 + 5 * K + 3) = w (90 + 5 * K + 3) ∨ b = 1 ∧ w' (58 + 8 * s + 1) = -1 ∧ w' (90 + 5 * K + 3) = w (90 + 5 * K + 3) + 1) (o : ∀ i : Nat, i ≠ 10 → i ≠ 27 → i ≠ 90 + 5 * K + 3 → i ≠ 58 + 8 * s + 1 → i ≠ 58 + 8 * s + 2 → i ≠ 58 + 8 * s + 3 → i ≠ 58 + 8 * s + 7 → (i < 130 + 11 * f ∨ 141 + 11 * f ≤ i) → w' i = w i) : Inv N e w' := by
  obtain ⟨v1, v2, v3, v4, v5, v6, v7⟩ := hb
  obtain ⟨i1, ⟨D, i2, i3⟩, i4, i5, i6, i7, U, i8, i9⟩ := h
  have o' : ∀ i : Nat, (11 ≤ i ∧ i < 58 ∧ i ≠ 27 ∨ 240 ≤ i) → w' i = w i := fun i hi => o i (by omega) (by omega) (by omega) (by omega) (by omega) (by omega) (by omega) (by omega)
  have eS := nS_e (o' 15 (by omega))
  have eT := nT_e (o' 16 (by omega))
  have eK := nK_e (o' 17 (by omega))
  have eF := nF_e (o' 18 (by omega))
  have eP := nP_e (o' 19 (by omega))
  have eL := nL_e (o' 28 (by omega))
  refine ⟨?_, ⟨D, fun b h1 h2 => by rw [o' _ (by omega)]; exact i2 b h1 h2, by rw [eL]; exact i3⟩, fun t ht => ?_, ?_, fun i hi L hL hx => ?_, fun L hL => ?_, U, by rw [o' 23 (by omega)]; exact i8, fun k hk hx => ?_⟩
  · rw [o' 38 (by omega), o' 39 (by omega), o' 40 (by omega), o' 41 (by omega), o' 42 (by omega), o' 43 (by omega), o' 23 (by omega)]
    exact i1
  · rw [eT] at ht
    obtain ⟨g, f1, f2, f3⟩ := i4 t ht
    refine ⟨g, f1, by rw [o' _ (by omega)]; exact f2, ?_⟩
    rw [eS]
    have : nzC w' t (nS w) = nzC w t (nS w) := cntP_congr (fun i hi => by
      show decide (w' (58 + 8 * i) = I t) = decide (w (58 + 8 * i) = I t)
      rw [o _ (by omega) (by omega) (by omega) (by omega) (by omega) (by omega) (by omega) (by omega)])
    rw [this]
    exact f3
  · rw [eS, chS_cg (nS w) (fun i hi => o _ (by omega) (by omega) (by omega) (by omega) (by omega) (by omega) (by omega) (by omega)), o' 31 (by omega)]
    exact i5
  · rw [eS] at hi
    rw [eK] at hL
    rw [o (58 + 8 * i) (by omega) (by omega) (by omega) (by omega) (by omega) (by omega) (by omega) (by omega), o' _ (by omega)]
    by_cases c1 : i = s
    · subst c1
      rcases hbb with ⟨-, q, -⟩ | ⟨-, q, -⟩
      · have : K = L := (I_inj (by omega) (by omega)).mp (q.symm.trans hx)
        subst this
        exact hfit
      · exact absurd (hx.symm.trans q) (I_ne_neg (by omega))
    · rw [o _ (by omega) (by omega) (by omega) (by omega) (by omega) (by omega) (by omega) (by omega)] at hx
      exact i6 i hi L hL hx
  · rw [eK] at hL
    have hin := inR_one (K := I L) (w := w) (w' := w') (f := f) (hk'.trans hk.symm) (nF w) (fun g j hg hn hj => o _ (by omega) (by omega) (by omega) (by omega) (by omega) (by omega) (by omega) (by omega)) v7 hf
    have hh := cntP_one (p := heldP w (I L)) (q := heldP w' (I L)) (s := s) (nS w) (fun i hi hn => by
      show decide (w' (58 + 8 * i + 1) = I L) = decide (w (58 + 8 * i + 1) = I L)
      rw [o _ (by omega) (by omega) (by omega) (by omega) (by omega) (by omega) (by omega) (by omega)]) hs
    have z : heldP w (I L) s = false := decide_eq_false (by rw [h1]; exact fun z => (I_ne_neg (by omega)) z.symm)
    rw [z] at hh
    have b0 := i7 L hL
    have ob : ∀ c : Nat, c ≠ 3 → c < 5 → w' (90 + 5 * L + c) = w (90 + 5 * L + c) := fun c h1 h2 => o _ (by omega) (by omega) (by omega) (by omega) (by omega) (by omega) (by omega) (by omega)
    by_cases c1 : L = K
    · subst c1
      rw [if_pos hk, if_pos hk] at hin
      have hin : inR w (I L) (nF w) = inR w' (I L) (nF w') + 1 := by rw [eF]; omega
      have b0 : (0 : Int32) + I (inR w (I L) (nF w)) + I (heldC w (I L)) + w (90 + 5 * L + 1) + w (90 + 5 * L + 2) + w (90 + 5 * L + 3) + w (90 + 5 * L + 4) = w (90 + 5 * L) := b0
      show (0 : Int32) + I (inR w' (I L) (nF w')) + I (heldC w' (I L)) + w' (90 + 5 * L + 1) + w' (90 + 5 * L + 2) + w' (90 + 5 * L + 3) + w' (90 + 5 * L + 4) = w' (90 + 5 * L)
      rw [show w' (90 + 5 * L) = w (90 + 5 * L) from ob 0 (by omega) (by omega), ob 1 (by omega) (by omega), ob 2 (by omega) (by omega), ob 4 (by omega) (by omega), ← b0, hin, ← I_add]
      rcases hbb with ⟨-, q1, q2⟩ | ⟨-, q1, q2⟩
      · have z' : heldP w' (I L) s = true := decide_eq_true q1
        rw [z'] at hh
        have hh : heldC w' (I L) = heldC w (I L) + 1 := by
          unfold heldC
          rw [eS]
          simpa using hh
        rw [hh, q2, ← I_add]
        ac_rfl
      · have z' : heldP w' (I L) s = false := decide_eq_false (by rw [q1]; exact fun z => (I_ne_neg (by omega)) z.symm)
        rw [z'] at hh
        have hh : heldC w' (I L) = heldC w (I L) := by
          unfold heldC
          rw [eS]
          simpa using hh
        rw [hh, q2, show (1 : Int32) = I 1 from rfl]
        ac_rfl
    · have nk : ¬ w (130 + 11 * f) = I L := by rw [hk]; exact fun z => c1 ((I_inj (by omega) (by omega)).mp z).symm
      rw [if_neg nk, if_neg nk] at hin
      have z' : heldP w' (I L) s = false := by
        rcases hbb with ⟨-, q1, -⟩ | ⟨-, q1, -⟩
        · exact decide_eq_false (by rw [q1]; exact fun z => c1 ((I_inj (by omega) (by omega)).mp z).symm)
        · exact decide_eq_false (by rw [q1]; exact fun z => (I_ne_neg (by omega)) z.symm)
      rw [z'] at hh
      refine tol_cg (fun c hc => ?_) (by rw [eF]; omega) ?_ b0
      · by_cases c3 : c = 3
        · subst c3
          exact o _ (by omega) (by omega) (by omega) (by omega) (by omega) (by omega) (by omega) (by omega)
        · exact ob c c3 hc
      · unfold heldC
        rw [eS]
        simpa using hh
  · rw [eP] at hk
    rw [o' _ (by omega)] at hx
    rw [o' _ (by omega), o' _ (by omega)]
    exact i9 k hk hx
