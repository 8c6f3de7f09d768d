/-! PURE: a pair dropped -/
def sW (w : Nat → Int32) (lo j : Nat) : Nat → Int32 := fun i => if lo ≤ i ∧ i < j then w (i + 2) else w i
theorem sW_n {w : Nat → Int32} {lo j i : Nat} (h : i < lo) : sW w lo j i = w i := if_neg (fun z => absurd z.1 (by omega))
theorem sW_h {w : Nat → Int32} {lo j i : Nat} (h : j ≤ i) : sW w lo j i = w i := if_neg (fun z => absurd z.2 (by omega))
theorem sW_i {w : Nat → Int32} {lo j i : Nat} (h : lo ≤ i) (h2 : i < j) : sW w lo j i = w (i + 2) := if_pos ⟨h, h2⟩
theorem sW_s (w : Nat → Int32) {lo j : Nat} (h : lo ≤ j) : upd (sW w lo j) j (sW w lo j (j + 2)) = sW w lo (j + 1) := by
  funext i
  by_cases e : i = j
  · subst e
    rw [upd_eq, sW_h (by omega), sW_i h (by omega)]
  · rw [upd_ne e]
    by_cases c : lo ≤ i ∧ i < j
    · rw [sW_i c.1 c.2, sW_i c.1 (by omega)]
    · by_cases c2 : i < lo
      · rw [sW_n c2, sW_n c2]
      · have : j < i := by
          by_cases c3 : i < j
          · exact absurd ⟨by omega, c3⟩ c
          · omega
        rw [sW_h (by omega), sW_h (by omega)]
theorem sW_l (x : MM) {w : Nat → Int32} {n' lo : Nat} (hn : n' ≤ 19) (e20 : w 20 = I n') (hl : 600 ≤ lo) : ∀ d j n : Nat, j + d = 600 + 2 * n' → lo ≤ j → d < n → D_X10_dropBefore_68 n (I j) (pw x (sW w lo j)) = some (1, pw x (sW w lo (600 + 2 * n'))) := by
  intro d
  induction d with
  | zero =>
    intro j n hi hj hn
    obtain ⟨n, rfl⟩ : ∃ n0 : Nat, n = n0 + 1 := ⟨n - 1, by omega⟩
    have hi : j = 600 + 2 * n' := by omega
    subst hi
    unfold D_X10_dropBefore_68
    rw [giP, sW_n (by omega), e20, ix600, if_pos (leT (Nat.le_refl _) (by omega))]
  | succ d ih =>
    intro j n hi hj hn
    obtain ⟨n, rfl⟩ : ∃ n0 : Nat, n = n0 + 1 := ⟨n - 1, by omega⟩
    have q := ih (j + 1) n (by omega) (by omega) (by omega)
    rw [← q, ← sW_s w hj]
    generalize hB : D_X10_dropBefore_68 n = BB
    unfold D_X10_dropBefore_68
    rw [giP, sW_n (by omega), e20, ix600, if_neg (leF (by omega) (by omega)), ixs2, gdI (by omega) (by omega), gdI (by omega) (by omega), I_tnc (by omega), I_tnc (by omega), giP, siP, bnd_s, bnd_s, ixs1, hB]
theorem T_dropBefore {m : MM} {w : Nat → Int32} (hR : R m w) (x h : MM) (x1 x2 : Int32) : AnsW m x w 1 0 (D_X9_dropBefore x1 x2 h m) (D_X10_dropBefore x1 x2 (pw x w)) := by
  obtain ⟨v1, v2, v3, v4, v5, v6, v7, v8⟩ := hR.r0.vc
  have hv := hR.v
  unfold D_X9_dropBefore D_X10_dropBefore
  rw [hR.r0.n19 hv]
  by_cases c1 : ok x1 (nP w)
  · obtain ⟨a, ha, rfl⟩ := ok_ex c1
    rw [rqi_y (by omega) c1, bX_s, nstP_y hv v5 c1, b2_s, if00, istP hv v5, b1_s]
    by_cases c2 : ok x2 (nP w)
    · obtain ⟨b, hb, rfl⟩ := ok_ex c2
      rw [rqi_y (by omega) c2, bX_s, if_pos c2, if10]
      unfold D_X10_dropBefore_22
      rw [tif0P, b2_s, if00]
      rcases pi_s hR.r0 (th x 0) hv (I a) (I b) with ⟨k, l, k1, l1, p1, p2, p3, q1, q2, q3⟩ | ⟨p1, q1, p2, q2⟩
      · obtain ⟨n', hn⟩ : ∃ n' : Nat, nQ w = n' + 1 := ⟨nQ w - 1, by omega⟩
        have eQ : w 20 = I (n' + 1) := by rw [hv.cnt.2.2.2.2.2.1, hn]
        have en : I (n' + 1) - (1 : Int32) = I n' := I_sub (a := n' + 1) (b := 1) (by omega)
        have g0 : gi m 36 9 = I (n' + 1) := hR.r0.c20.trans eQ
        have hm : D_X0_removePair (I k) m = some (si (si (si m 36 9 (I n')) 43 k (gi m 43 n')) 44 k (gi m 44 n')) := by
          unfold D_X0_removePair
          rw [g0, en, bnd_s, gi_si_eq, gdI (by omega) (by omega), gdI (by omega) (by omega), I_tnc (by omega), I_tnc (by omega), gi_si_ne (by omega), bnd_s, gi_si_ne (by omega), gi_si_eq, gdI (by omega) (by omega), I_tnc (by omega), bnd_s, gi_si_ne (by omega), gi_si_ne (by omega)]
          exact gdJ (by omega) (by omega)
        have f20 : upd w 20 (I n') 20 = I n' := upd_eq _ _ _
        have ql := sW_l (th x 0) (w := upd w 20 (I n')) (n' := n') (lo := 600 + 2 * l) (by omega) f20 (by omega) (2 * n' - 2 * l) (600 + 2 * l) FU (by omega) (Nat.le_refl _) (by show 2 * n' - 2 * l < 5000; omega)
        have e0 : sW (upd w 20 (I n')) (600 + 2 * l) (600 + 2 * l) = upd w 20 (I n') := funext fun i => by
          by_cases c : i < 600 + 2 * l
          · exact sW_n c
          · exact sW_h (by omega)
        rw [e0] at ql
        rw [p1, b1_s, if_neg (I_ne_neg (by omega)), hm, b1_s, q1, b1_s, if_neg (I_ne_neg (by omega)), giP, eQ, en, bnd_s, siP, bnd_s, ix600, ql]
        have o : ∀ i : Nat, i < 600 + 2 * l → i ≠ 20 → sW (upd w 20 (I n')) (600 + 2 * l) (600 + 2 * n') i = w i := fun i hi h => by rw [sW_n hi, upd_ne h]
        have os : ∀ i : Nat, 600 + 2 * l ≤ i → i < 600 + 2 * n' → sW (upd w 20 (I n')) (600 + 2 * l) (600 + 2 * n') i = w (i + 2) := fun i hi h => by rw [sW_i hi h, upd_ne (by omega)]
        have o20 : sW (upd w 20 (I n')) (600 + 2 * l) (600 + 2 * n') 20 = I n' := by rw [sW_n (by omega), upd_eq]
        generalize hw : sW (upd w 20 (I n')) (600 + 2 * l) (600 + 2 * n') = w' at o os o20
        have g3 : ∀ i : Nat, i ≠ k → gi (si (si (si m 36 9 (I n')) 43 k (gi m 43 n')) 44 k (gi m 44 n')) 43 i = gi m 43 i := fun i hi => by rw [gi_si_ne (by omega), gi_si_ne (by omega), gi_si_ne (by omega)]
        have g4 : ∀ i : Nat, i ≠ k → gi (si (si (si m 36 9 (I n')) 43 k (gi m 43 n')) 44 k (gi m 44 n')) 44 i = gi m 44 i := fun i hi => by rw [gi_si_ne (by omega), gi_si_ne (by omega), gi_si_ne (by omega)]
        have g3k : gi (si (si (si m 36 9 (I n')) 43 k (gi m 43 n')) 44 k (gi m 44 n')) 43 k = gi m 43 n' := by rw [gi_si_ne (by omega), gi_si_eq]
        have g4k : gi (si (si (si m 36 9 (I n')) 43 k (gi m 43 n')) 44 k (gi m 44 n')) 44 k = gi m 44 n' := gi_si_eq _ _ _ _
        have gm : ∀ q j : Nat, (q ≠ 43 ∧ q ≠ 44 ∧ (q ≠ 36 ∨ j ≠ 9)) → gi (si (si (si m 36 9 (I n')) 43 k (gi m 43 n')) 44 k (gi m 44 n')) q j = gi m q j := fun q j hq => by rw [gi_si_ne (by omega), gi_si_ne (by omega), gi_si_ne (by omega)]
        have g9 : gi (si (si (si m 36 9 (I n')) 43 k (gi m 43 n')) 44 k (gi m 44 n')) 36 9 = I n' := by rw [gi_si_ne (by omega), gi_si_ne (by omega), gi_si_eq]
        have gL : ∀ q j : Nat, gl (si (si (si m 36 9 (I n')) 43 k (gi m 43 n')) 44 k (gi m 44 n')) q j = gl m q j := fun q j => rfl
        generalize si (si (si m 36 9 (I n')) 43 k (gi m 43 n')) 44 k (gi m 44 n') = m' at g3 g4 g3k g4k gm g9 gL
        obtain ⟨r1, r2⟩ := hR.r0.pr
        have pd := hR.r0.pd
        rw [hn] at r1 r2 pd k1 l1
        -- the class's pairs, and the row's: all but one
        have sm : ∀ c d : Int32, (∃ i : Nat, i < n' ∧ gi m' 43 i = c ∧ gi m' 44 i = d) ↔ ∃ i : Nat, i < n' + 1 ∧ i ≠ k ∧ gi m 43 i = c ∧ gi m 44 i = d := fun c d => by
          constructor
          · rintro ⟨i, hi, e1, e2⟩
            by_cases e : i = k
            · subst e
              rw [g3k] at e1
              rw [g4k] at e2
              exact ⟨n', by omega, by omega, e1, e2⟩
            · rw [g3 i e] at e1
              rw [g4 i e] at e2
              exact ⟨i, by omega, e, e1, e2⟩
          · rintro ⟨i, hi, hk, e1, e2⟩
            by_cases e : i = n'
            · subst e
              exact ⟨k, by omega, by rw [g3k]; exact e1, by rw [g4k]; exact e2⟩
            · exact ⟨i, by omega, by rw [g3 i hk]; exact e1, by rw [g4 i hk]; exact e2⟩
        have sw : ∀ c d : Int32, (∃ i : Nat, i < n' ∧ w' (600 + 2 * i) = c ∧ w' (601 + 2 * i) = d) ↔ ∃ i : Nat, i < n' + 1 ∧ i ≠ l ∧ w (600 + 2 * i) = c ∧ w (601 + 2 * i) = d := fun c d => by
          constructor
          · rintro ⟨i, hi, e1, e2⟩
            by_cases e : i < l
            · rw [o _ (by omega) (by omega)] at e1
              rw [o _ (by omega) (by omega)] at e2
              exact ⟨i, by omega, by omega, e1, e2⟩
            · rw [os _ (by omega) (by omega)] at e1
              rw [os _ (by omega) (by omega)] at e2
              exact ⟨i + 1, by omega, by omega, by rw [show 600 + 2 * (i + 1) = 600 + 2 * i + 2 by omega]; exact e1, by rw [show 601 + 2 * (i + 1) = 601 + 2 * i + 2 by omega]; exact e2⟩
          · rintro ⟨i, hi, hk, e1, e2⟩
            by_cases e : i < l
            · exact ⟨i, by omega, by rw [o _ (by omega) (by omega)]; exact e1, by rw [o _ (by omega) (by omega)]; exact e2⟩
            · obtain ⟨j, rfl⟩ : ∃ j : Nat, i = j + 1 := ⟨i - 1, by omega⟩
              refine ⟨j, by omega, ?_, ?_⟩
              · rw [os _ (by omega) (by omega), show 600 + 2 * j + 2 = 600 + 2 * (j + 1) by omega]
                exact e1
              · rw [os _ (by omega) (by omega), show 601 + 2 * j + 2 = 601 + 2 * (j + 1) by omega]
                exact e2
        refine AnsW.y rfl rfl (pr_end hR (n := n') (by omega) gm gL (fun i hi => o i (by omega) hi.2) o20 g9 ⟨fun c d => ?_, fun i j hi hj e1 e2 => ?_⟩ ?_) Rn.z (by rw [o 23 (by omega) (by omega), Int32.add_zero])
        · rw [sm, sw]
          constructor
          · rintro ⟨i, hi, hk, e1, e2⟩
            obtain ⟨j, hj, f1, f2⟩ := (r1 c d).mp ⟨i, hi, e1, e2⟩
            refine ⟨j, hj, fun z => hk ?_, f1, f2⟩
            subst z
            exact r2 i k hi k1 (by rw [e1, p2, ← f1, q2]) (by rw [e2, p3, ← f2, q3])
          · rintro ⟨i, hi, hk, e1, e2⟩
            obtain ⟨j, hj, f1, f2⟩ := (r1 c d).mpr ⟨i, hi, e1, e2⟩
            refine ⟨j, hj, fun z => hk ?_, f1, f2⟩
            subst z
            exact pd i l hi l1 (by rw [e1, q2, ← f1, p2]) (by rw [e2, q3, ← f2, p3])
        · by_cases ei : i = k
          · by_cases ej : j = k
            · rw [ei, ej]
            · rw [ei, g3k, g3 j ej] at e1
              rw [ei, g4k, g4 j ej] at e2
              have := r2 n' j (by omega) (by omega) e1 e2
              omega
          · by_cases ej : j = k
            · rw [ej, g3k, g3 i ei] at e1
              rw [ej, g4k, g4 i ei] at e2
              have := r2 i n' (by omega) (by omega) e1 e2
              omega
            · rw [g3 i ei, g3 j ej] at e1
              rw [g4 i ei, g4 j ej] at e2
              exact r2 i j (by omega) (by omega) e1 e2
        · obtain ⟨ρ, hr⟩ := hv.pr
          rw [hn] at hr
          refine ⟨ρ, fun i hi => ?_⟩
          by_cases e : i < l
          · rw [o _ (by omega) (by omega), o _ (by omega) (by omega)]
            exact hr i (by omega)
          · rw [os _ (by omega) (by omega), os _ (by omega) (by omega), show 600 + 2 * i + 2 = 600 + 2 * (i + 1) by omega, show 600 + 2 * i + 1 + 2 = 600 + 2 * (i + 1) + 1 by omega]
            exact hr (i + 1) (by omega)
      · rw [p1, b1_s, if_pos rfl, q1, b1_s, if_pos rfl]
        exact AnsW.same hR rfl rfl
    · unfold D_X10_dropBefore_22
      rw [rqi_n (by omega) c2, bX_x, if_neg c2, if00, tif1P _ _ (by decide), b2_s, if10]
      exact AnsW.t0 (by decide) rfl rfl
  · rw [rqi_n (by omega) c1, bX_x, nstP_n hv v5 c1, b2_s, if10]
    exact AnsW.t0 (by decide) rfl rfl
