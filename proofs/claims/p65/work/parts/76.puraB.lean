/-! PURE: calls that change the machine (feeders, settings, spots) -/
theorem R.w1 {m' : MM} {w w' : Nat → Int32} (h : R1 (fun a => w (37 + a)) m' w') (e : ∀ a : Nat, a < 7 → w' (37 + a) = w (37 + a)) (hv : V w') : R m' w' := ⟨⟨h.1, fun a ha => by
  show gi m' 50 a = w' (37 + a)
  rw [e a ha]
  exact h.2 a ha⟩, hv⟩
/-- a change of one feeder's block, of books and of the count of reels -/
theorem V.fdc {m : MM} {w w3 : Nat → Int32} (h : R0 m w) (hv : V w) {f : Nat} (hff : f < nF w) (lo : ∀ i : Nat, (i < 27 ∨ 27 < i ∧ i < 90 ∨ 130 ≤ i ∧ (i < 130 + 11 * f ∨ 141 + 11 * f ≤ i)) → w3 i = w i) (hf : f < nF w → FdOk (nK w) (Fb w3 f)) : V w3 := by
  obtain ⟨v1, v2, v3, v4, v5, v6, v7, v8⟩ := h.vc
  refine hv.ac h 100 f 100 (fun i hi => lo i (by omega)) (by rw [lo 21 (by omega)]; exact hv.vg.2.2.2.2.1) (by rw [lo 22 (by omega)]; exact hv.vg.2.2.2.2.2) (by rw [lo 29 (by omega)]; exact hv.hlt) (fun z => by omega) hf (fun z => by omega)
theorem ok501 {x2 : Int32} {n : Nat} (h : ok x2 (n + 1)) (hn : n < 1000000) : Rn n x2 := by
  obtain ⟨p, hp, rfl⟩ := ok_ex h
  exact ⟨p, by omega, rfl⟩
theorem T_setMiss {m : MM} {w : Nat → Int32} (hR : R m w) (x h : MM) (x1 x2 : Int32) : AnsW m x w 1 2 (D_X9_setMiss x1 x2 h m) (D_X10_setMiss x1 x2 (pw x w)) := by
  obtain ⟨v1, v2, v3, v4, v5, v6, -⟩ := hR.r0.vc
  have hv := hR.v
  unfold D_X9_setMiss D_X10_setMiss D_X10_changesFeeder
  rw [hR.r0.n18 hv]
  by_cases c1 : ok x1 (nF w)
  · rw [rqi_y (by omega) c1, bX_s, nfdP_y hv v4 c1, b2_s, if00, rqr_ok (n := 101) (by decide), in_ok (n := 101) (by decide), b1_s]
    obtain ⟨f, hf, rfl⟩ := ok_ex c1
    by_cases c2 : ok x2 101
    · have k : R1 (fun a => w (37 + a)) (si m (4 + f) 3 x2) (upd w (130 + 11 * f + 3) x2) := hR.1.wFd (f := f) (j := 3) (by omega) (by decide) (by decide) x2
      have lo : ∀ i : Nat, i ≠ 130 + 11 * f + 3 → upd w (130 + 11 * f + 3) x2 i = w i := fun i hi => upd_ne hi
      have hv2 : V (upd w (130 + 11 * f + 3) x2) := V.fdc hR.r0 hv (f := f) hf (fun i hi => lo i (by omega)) (fun _ => by
        obtain ⟨d1, d2, ⟨n, hn, d3, d4⟩, d5, d6⟩ := hv.fd f hf
        exact ⟨by rw [show Fb (upd w (130 + 11 * f + 3) x2) f 0 = Fb w f 0 from lo _ (by omega)]; exact d1, by rw [show Fb (upd w (130 + 11 * f + 3) x2) f 2 = Fb w f 2 from lo _ (by omega)]; exact d2, ⟨n, hn, by rw [show Fb (upd w (130 + 11 * f + 3) x2) f 4 = Fb w f 4 from lo _ (by omega)]; exact d3, fun j hj => by rw [show Fb (upd w (130 + 11 * f + 3) x2) f (8 + j) = Fb w f (8 + j) from lo _ (by omega)]; exact d4 j hj⟩, by rw [show Fb (upd w (130 + 11 * f + 3) x2) f 7 = Fb w f 7 from lo _ (by omega)]; exact d5, by rw [show Fb (upd w (130 + 11 * f + 3) x2) f 1 = Fb w f 1 from lo _ (by omega)]; exact d6⟩)
      rw [if_pos c2, if_pos c2, bX_s, if10, tif0P, b2_s, if00, oFd3P (by omega), b1_s, poFd3P (by omega), b1_s, b2_s, gdI (by omega) (by omega), I_tnc (by omega), hR.r0.fd3 hf, bnd_s, gdJ (by omega) (by omega), bnd_s]
      exact AnsW.y rfl rfl (R.w1 k (fun a ha => lo _ (by omega)) hv2) Rn.z (by rw [lo 23 (by omega), Int32.add_zero])
    · rw [if_neg c2, if_neg c2, bX_x, if00, tif1P _ _ (by decide), b2_s, if10]
      exact AnsW.t1 (by decide) rfl rfl
  · rw [rqi_n (by omega) c1, bX_x, nfdP_n hv v4 c1, b2_s, if10]
    exact AnsW.t0 (by decide) rfl rfl
theorem T_moveFeeder {m : MM} {w : Nat → Int32} (hR : R m w) (x h : MM) (x1 x2 : Int32) : AnsW m x w 1 2 (D_X9_moveFeeder x1 x2 h m) (D_X10_moveFeeder x1 x2 (pw x w)) := by
  obtain ⟨v1, v2, v3, v4, v5, v6, -⟩ := hR.r0.vc
  have hv := hR.v
  unfold D_X9_moveFeeder D_X10_moveFeeder D_X10_changesFeeder
  rw [hR.r0.n18 hv]
  by_cases c1 : ok x1 (nF w)
  · rw [rqi_y (by omega) c1, bX_s, nfdP_y hv v4 c1, b2_s, if00, rqr_ok (n := 1000) (by decide), in_ok (n := 1000) (by decide), b1_s]
    obtain ⟨f, hf, rfl⟩ := ok_ex c1
    by_cases c2 : ok x2 1000
    · have k : R1 (fun a => w (37 + a)) (si m (4 + f) 1 x2) (upd w (130 + 11 * f + 1) x2) := hR.1.wFd (f := f) (j := 1) (by omega) (by decide) (by decide) x2
      have lo : ∀ i : Nat, i ≠ 130 + 11 * f + 1 → upd w (130 + 11 * f + 1) x2 i = w i := fun i hi => upd_ne hi
      have hv2 : V (upd w (130 + 11 * f + 1) x2) := V.fdc hR.r0 hv (f := f) hf (fun i hi => lo i (by omega)) (fun _ => by
        obtain ⟨d1, d2, ⟨n, hn, d3, d4⟩, d5, d6⟩ := hv.fd f hf
        exact ⟨by rw [show Fb (upd w (130 + 11 * f + 1) x2) f 0 = Fb w f 0 from lo _ (by omega)]; exact d1, by rw [show Fb (upd w (130 + 11 * f + 1) x2) f 2 = Fb w f 2 from lo _ (by omega)]; exact d2, ⟨n, hn, by rw [show Fb (upd w (130 + 11 * f + 1) x2) f 4 = Fb w f 4 from lo _ (by omega)]; exact d3, fun j hj => by rw [show Fb (upd w (130 + 11 * f + 1) x2) f (8 + j) = Fb w f (8 + j) from lo _ (by omega)]; exact d4 j hj⟩, by rw [show Fb (upd w (130 + 11 * f + 1) x2) f 7 = Fb w f 7 from lo _ (by omega)]; exact d5, by rw [show Fb (upd w (130 + 11 * f + 1) x2) f 1 = x2 from upd_eq _ _ _]; exact ok501 (n := 999) c2 (by decide)⟩)
      rw [if_pos c2, if_pos c2, bX_s, if10, tif0P, b2_s, if00, oFd1P (by omega), b1_s, poFd1P (by omega), b1_s, b2_s, gdI (by omega) (by omega), I_tnc (by omega), hR.r0.fd1 hf, bnd_s, gdJ (by omega) (by omega), bnd_s]
      exact AnsW.y rfl rfl (R.w1 k (fun a ha => lo _ (by omega)) hv2) Rn.z (by rw [lo 23 (by omega), Int32.add_zero])
    · rw [if_neg c2, if_neg c2, bX_x, if00, tif1P _ _ (by decide), b2_s, if10]
      exact AnsW.t1 (by decide) rfl rfl
  · rw [rqi_n (by omega) c1, bX_x, nfdP_n hv v4 c1, b2_s, if10]
    exact AnsW.t0 (by decide) rfl rfl
/-- another count of reels that wait, and one reel changed -/
theorem reel_s {τ : Nat → Int32} {m m' : MM} {w w' : Nat → Int32} (h : R1 τ m w) {f n' : Nat} (hf : f < nF w) (hn : n' ≤ 3) (g : ∀ q k : Nat, (q ≠ 4 + f ∨ k ≠ 4) ∧ q ≠ 14 + f → gi m' q k = gi m q k) (gL : ∀ q k : Nat, gl m' q k = gl m q k) (g4 : gi m' (4 + f) 4 = I n') (e4 : Fb w' f 4 = I n') (lo : ∀ i : Nat, i ≠ 130 + 11 * f + 4 ∧ (i < 138 + 11 * f ∨ 141 + 11 * f ≤ i) → w' i = w i) (hre : ∀ k : Nat, k < n' → gi m' (14 + f) k = Fb w' f (8 + k)) : R1 τ m' w' := by
  obtain ⟨v1, v2, v3, v4, v5, v6, v7, v8⟩ := h.1.vc
  have eF : nF w' = nF w := nF_e (lo 18 (by omega))
  have ewt' : wt w' f = n' := by rw [wtb, e4, I_tnc (by omega)]
  refine ⟨?_, fun a ha => by rw [g _ _ (by omega)]; exact h.2 a ha⟩
  refine h.1.fReel (f0 := f) (by omega) (fun q k hq => g q k (by omega)) (fun q k _ => gL q k) (fun i hi => lo i (by omega)) ?_ (fun f' j hf' hj => ?_) (fun f' k hf' hk => ?_)
  · refine ⟨by rw [nS_e (lo 15 (by omega))]; exact v1, by rw [nT_e (lo 16 (by omega))]; exact v2, by rw [nK_e (lo 17 (by omega))]; exact v3, by rw [eF]; exact v4, by rw [nP_e (lo 19 (by omega))]; exact v5, by rw [nQ_e (lo 20 (by omega))]; exact v6, by rw [nL_e (lo 28 (by omega))]; exact v7, fun f' hf' => ?_⟩
    by_cases e : f' = f
    · subst e; omega
    · rw [eF] at hf'
      unfold wt
      rw [lo _ (by omega)]
      exact v8 f' hf'
  · rw [eF] at hf'
    by_cases e : f' = f ∧ j = 4
    · obtain ⟨rfl, rfl⟩ := e
      show gi m' (4 + f') 4 = Fb w' f' 4
      rw [g4, e4]
    · have hfj : f' ≠ f ∨ fj j ≠ 4 := by
        by_cases e2 : f' = f
        · right
          unfold fj
          split <;> omega
        · exact Or.inl e2
      rw [g _ _ (by omega), lo _ (by omega)]
      exact h.1.fd f' j hf' hj
  · rw [eF] at hf'
    by_cases e : f' = f
    · subst e
      rw [ewt'] at hk
      rw [hre k hk]
      unfold Fb
      rw [show 138 + 11 * f' + k = 130 + 11 * f' + (8 + k) by omega]
    · have ew : wt w' f' = wt w f' := by
        unfold wt
        rw [lo _ (by omega)]
      rw [ew] at hk
      have := v8 f' hf'
      rw [g _ _ (by omega), lo _ (by omega)]
      exact h.1.re f' k hf' hk
theorem T_splice {m : MM} {w : Nat → Int32} (hR : R m w) (x h : MM) (x1 x2 : Int32) : AnsW m x w 1 2 (D_X9_splice x1 x2 h m) (D_X10_splice x1 x2 (pw x w)) := by
  obtain ⟨v1, v2, v3, v4, v5, v6, v7, v8⟩ := hR.r0.vc
  have hv := hR.v
  unfold D_X9_splice D_X10_splice D_X10_splice_26
  rw [hR.r0.n18 hv]
  by_cases c1 : ok x1 (nF w)
  · rw [rqi_y (by omega) c1, bX_s, nfdP_y hv v4 c1, b2_s, if00, rqr_ok (n := 501) (by decide), in_ok (n := 501) (by decide), b1_s]
    obtain ⟨f, hf, rfl⟩ := ok_ex c1
    by_cases c2 : ok x2 501
    · obtain ⟨⟨K, hK, eK⟩, ⟨p, hp, ep⟩, ⟨n, hn, e4, hr⟩, d5, d6⟩ := hv.fd f hf
      have eK : w (130 + 11 * f) = I K := eK
      have e4 : w (130 + 11 * f + 4) = I n := e4
      have g4 : gi m (4 + f) 4 = I n := (hR.r0.fd4 hf).trans e4
      rw [if_pos c2, if_pos c2, bX_s, if10, tif0P, b2_s, if00, gdI (by omega) (by omega), I_tnc (by omega), g4, oFd4P (by omega), b1_s, e4]
      by_cases c3 : n = 3
      · subst c3
        rw [if_neg (show ¬ I 3 < (3 : Int32) by decide), if_pos (show I 3 = (3 : Int32) by decide)]
        exact AnsW.y rfl rfl hR Rn.z (by rw [Int32.add_zero])
      · have l3 : I n < (3 : Int32) := (I_lt (b := 3) (by omega) (by decide)).mpr (by omega)
        have n3 : ¬ I n = (3 : Int32) := fun z => c3 ((I_inj (b := 3) (by omega) (by decide)).mp z)
        rw [if_pos l3, if_neg n3]
        -- the reel that comes to wait
        have ew : wt w f = n := by
          rw [wtb]
          show (w (130 + 11 * f + 4)).toNatClampNeg = n
          rw [e4, I_tnc (by omega)]
        have k2 : R1 (fun a => w (37 + a)) (si (si m (4 + f + 10) n x2) (4 + f) 4 (I (n + 1))) (upd (upd w (138 + 11 * f + n) x2) (130 + 11 * f + 4) (I (n + 1))) := by
          refine reel_s hR.1 (f := f) (n' := n + 1) hf (by omega) (fun q k hq => ?_) (fun q k => rfl) (gi_si_eq _ _ _ _) (upd_eq _ _ _) (fun i hi => wr_lo (by omega) (upd_ne (by omega))) (fun k hk => ?_)
          · rw [gi_si_ne (by omega), gi_si_ne (by omega)]
          · unfold Fb
            rw [gi_si_ne (by omega), upd_ne (by omega)]
            by_cases e : k = n
            · subst e
              rw [gi_si_is (by omega), upd_is (by omega)]
            · rw [gi_si_ne (by omega), upd_ne (by omega), hR.r0.re f k hf (by omega), show 138 + 11 * f + k = 130 + 11 * f + (8 + k) by omega]
        have k3 := k2.wBk (k := K) (c := 0) (by omega) (by decide) (w (90 + 5 * K) + x2)
        have lo3 : ∀ i : Nat, i ≠ 130 + 11 * f + 4 ∧ i ≠ 138 + 11 * f + n ∧ i ≠ 90 + 5 * K → upd (upd (upd w (138 + 11 * f + n) x2) (130 + 11 * f + 4) (I (n + 1))) (90 + 5 * K + 0) (w (90 + 5 * K) + x2) i = w i := fun i hi => wr_lo (by omega) (wr_lo (by omega) (upd_ne (by omega)))
        have hd3 : FdOk (nK w) (Fb (upd (upd (upd w (138 + 11 * f + n) x2) (130 + 11 * f + 4) (I (n + 1))) (90 + 5 * K + 0) (w (90 + 5 * K) + x2)) f) := by
          refine ⟨⟨K, hK, ?_⟩, ⟨p, hp, ?_⟩, ⟨n + 1, by omega, ?_, fun j hj => ?_⟩, ?_, ?_⟩
          · exact (lo3 _ (by omega)).trans eK
          · exact (lo3 _ (by omega)).trans ep
          · show upd _ _ _ (130 + 11 * f + 4) = _
            rw [upd_ne (by omega), upd_eq]
          · by_cases e : j = n
            · subst e
              obtain ⟨q, hq, rfl⟩ := ok_ex c2
              refine ⟨q, by omega, ?_⟩
              show upd _ _ _ (130 + 11 * f + (8 + j)) = _
              rw [upd_ne (by omega), upd_ne (by omega), upd_is (by omega)]
            · obtain ⟨q, hq, eq⟩ := hr j (by omega)
              exact ⟨q, hq, (lo3 _ (by omega)).trans eq⟩
          · rw [show Fb (upd (upd (upd w (138 + 11 * f + n) x2) (130 + 11 * f + 4) (I (n + 1))) (90 + 5 * K + 0) (w (90 + 5 * K) + x2)) f 7 = Fb w f 7 from lo3 _ (by omega)]
            exact d5
          · rw [show Fb (upd (upd (upd w (138 + 11 * f + n) x2) (130 + 11 * f + 4) (I (n + 1))) (90 + 5 * K + 0) (w (90 + 5 * K) + x2)) f 1 = Fb w f 1 from lo3 _ (by omega)]
            exact d6
        obtain ⟨c, m', w', s1, s2, s3, s4, s5, s6⟩ := splice_s k3 (th x 0) (f := f) (nk := nK w) (by rw [nF_e (lo3 18 (by omega))]; exact hf) hd3
        have lo4 : ∀ i : Nat, i ≠ 27 ∧ i ≠ 90 + 5 * K ∧ (i < 130 + 11 * f ∨ 141 + 11 * f ≤ i) → w' i = w i := fun i hi => (s6 i (by omega)).trans (lo3 i (by omega))
        have hv4 : V w' := V.fdc hR.r0 hv (f := f) hf (fun i hi => lo4 i (by omega)) (fun _ => s5)
        have hR4 : R (si m' 45 8 (gi (si (si (si m (4 + f + 10) n x2) (4 + f) 4 (I (n + 1))) (30 + 0) K (w (90 + 5 * K) + x2)) 45 8 + c)) w' := R.w1 s3 (fun a ha => lo4 _ (by omega)) hv4
        have v9 : gi (si m' 45 8 (gi (si (si (si m (4 + f + 10) n x2) (4 + f) 4 (I (n + 1))) (30 + 0) K (w (90 + 5 * K) + x2)) 45 8 + c)) (4 + f) 4 = w' (130 + 11 * f + 4) := hR4.r0.fd4 (by rw [nF_e (lo4 18 (by omega))]; exact hf)
        refine AnsW.y (m' := si m' 45 8 (gi (si (si (si m (4 + f + 10) n x2) (4 + f) 4 (I (n + 1))) (30 + 0) K (w (90 + 5 * K) + x2)) 45 8 + c)) (v := w' (130 + 11 * f + 4)) ?_ ?_ hR4 Rn.z (by rw [lo4 23 (by omega), Int32.add_zero])
        · unfold D_X2_addReel
          have n3' : ¬ (3 : Int32) ≤ I n := leF (a := 3) (by omega) (by decide)
          have k0 : gi m (4 + f) 0 = I K := (hR.r0.fd0 hf).trans eK
          have kb : gi m 30 K = w (90 + 5 * K) := hR.r0.bk K 0 (by omega) (by decide)
          rw [g4, if_neg n3', gdI (by omega) (by omega), I_tnc (by omega), bnd_s, gi_si_ne (show 4 + f ≠ 4 + f + 10 ∨ 4 ≠ n by omega), g4, ixs1, bnd_s, b1_s, gi_si_ne (show 4 + f ≠ 4 + f ∨ 0 ≠ 4 by omega), gi_si_ne (show 4 + f ≠ 4 + f + 10 ∨ 0 ≠ n by omega), k0, bnd_s, gdI (by omega) (by omega), gdI (by omega) (by omega), I_tnc (by omega), gi_si_ne (show 30 ≠ 4 + f ∨ K ≠ 4 by omega), gi_si_ne (show 30 ≠ 4 + f + 10 ∨ K ≠ n by omega), kb, bnd_s]
          have s1 : D_X2_spliceIfEmpty (4 + f) (si (si (si m (4 + f + 10) n x2) (4 + f) 4 (I (n + 1))) 30 K (w (90 + 5 * K) + x2)) = some (c, m') := s1
          rw [s1, b2_s, bnd_s]
          exact congrArg (fun v => some (Sum.inr (v, si m' 45 8 (gi (si (si (si m (4 + f + 10) n x2) (4 + f) 4 (I (n + 1))) (30 + 0) K (w (90 + 5 * K) + x2)) 45 8 + c)))) v9
        · rw [b1_s, poReP (by omega) (by omega), b1_s, oFd4P (by omega), b1_s, upd_ne (show 130 + 11 * f + 4 ≠ 138 + 11 * f + n by omega), e4, ixs1, poFd4P (by omega), b1_s, oFd0P (by omega), b1_s, upd_ne (show 130 + 11 * f ≠ 130 + 11 * f + 4 by omega), upd_ne (show 130 + 11 * f ≠ 138 + 11 * f + n by omega), eK, bks0P (by omega), b1_s, upd_ne (show 90 + 5 * K ≠ 130 + 11 * f + 4 by omega), upd_ne (show 90 + 5 * K ≠ 138 + 11 * f + n by omega)]
          have s2 : D_X10_splices (I f) (pw (th x 0) (upd (upd (upd w (138 + 11 * f + n) x2) (130 + 11 * f + 4) (I (n + 1))) (90 + 5 * K) (w (90 + 5 * K) + x2))) = some (pw (th x 0) w') := s2
          rw [s2, b1_s, oFd4P (by omega), b1_s]
    · rw [if_neg c2, if_neg c2, bX_x, if00, tif1P _ _ (by decide), b2_s, if10]
      exact AnsW.t1 (by decide) rfl rfl
  · rw [rqi_n (by omega) c1, bX_x, nfdP_n hv v4 c1, b2_s, if10]
    exact AnsW.t0 (by decide) rfl rfl
theorem T_takeReel {m : MM} {w : Nat → Int32} (hR : R m w) (x h : MM) (x1 : Int32) : AnsW m x w 1 0 (D_X9_takeReel x1 h m) (D_X10_takeReel x1 (pw x w)) := by
  obtain ⟨v1, v2, v3, v4, v5, v6, v7, v8⟩ := hR.r0.vc
  have hv := hR.v
  unfold D_X9_takeReel D_X10_takeReel
  rw [hR.r0.n18 hv]
  by_cases c1 : ok x1 (nF w)
  · obtain ⟨f, hf, rfl⟩ := ok_ex c1
    obtain ⟨⟨K, hK, eK⟩, ⟨p, hp, ep⟩, ⟨n, hn, e4, hr⟩, d5, d6⟩ := hv.fd f hf
    have eK : w (130 + 11 * f) = I K := eK
    have e4 : w (130 + 11 * f + 4) = I n := e4
    have g4 : gi m (4 + f) 4 = I n := (hR.r0.fd4 hf).trans e4
    rw [rqi_y (by omega) c1, bX_s, nfdP_y hv v4 c1, b2_s, if00, gdI (by omega) (by omega), I_tnc (by omega), g4, oFd4P (by omega), b1_s, e4]
    by_cases c3 : n = 0
    · subst c3
      rw [if_pos (show I 0 = (0 : Int32) by decide), if_pos (show I 0 = (0 : Int32) by decide)]
      exact AnsW.y rfl rfl hR Rn.z (by rw [Int32.add_zero])
    · obtain ⟨n, rfl⟩ : ∃ n' : Nat, n = n' + 1 := ⟨n - 1, by omega⟩
      have ne0 : ¬ I (n + 1) = (0 : Int32) := fun z => c3 ((I_ne0 (by omega)).mp z)
      have gt0 : (0 : Int32) < I (n + 1) := (I_lt (a := 0) (by decide) (by omega)).mpr (by omega)
      have esub : I (n + 1) - (1 : Int32) = I n := by
        rw [show (1 : Int32) = I 1 from rfl, I_sub (by omega)]
        rfl
      have e8 : ((8 : Int32) + I (n + 1)) - (1 : Int32) = (8 : Int32) + I n := by
        rw [show (8 : Int32) = I 8 from rfl, show (1 : Int32) = I 1 from rfl, I_add, I_add, I_sub (by omega)]
        rfl
      have ew : wt w f = n + 1 := by
        rw [wtb]
        show (w (130 + 11 * f + 4)).toNatClampNeg = n + 1
        rw [e4, I_tnc (by omega)]
      have hre : gi m (4 + f + 10) n = w (138 + 11 * f + n) := by
        rw [show 4 + f + 10 = 14 + f by omega]
        exact hR.r0.re f n hf (by omega)
      have k2 : R1 (fun a => w (37 + a)) (si m (4 + f) 4 (I n)) (upd (upd w (138 + 11 * f + n) 0) (130 + 11 * f + 4) (I n)) := by
        refine reel_s hR.1 (f := f) (n' := n) hf (by omega) (fun q k hq => ?_) (fun q k => rfl) (gi_si_eq _ _ _ _) (upd_eq _ _ _) (fun i hi => wr_lo (by omega) (upd_ne (by omega))) (fun k hk => ?_)
        · rw [gi_si_ne (by omega)]
        · unfold Fb
          rw [gi_si_ne (by omega), upd_ne (by omega), upd_ne (by omega), hR.r0.re f k hf (by omega), show 138 + 11 * f + k = 130 + 11 * f + (8 + k) by omega]
      have k3 := k2.wBk (k := K) (c := 4) (by omega) (by decide) (w (90 + 5 * K + 4) + w (138 + 11 * f + n))
      have lo3 : ∀ i : Nat, i ≠ 130 + 11 * f + 4 ∧ i ≠ 138 + 11 * f + n ∧ i ≠ 90 + 5 * K + 4 → upd (upd (upd w (138 + 11 * f + n) 0) (130 + 11 * f + 4) (I n)) (90 + 5 * K + 4) (w (90 + 5 * K + 4) + w (138 + 11 * f + n)) i = w i := fun i hi => wr_lo (by omega) (wr_lo (by omega) (upd_ne (by omega)))
      have hv4 : V (upd (upd (upd w (138 + 11 * f + n) 0) (130 + 11 * f + 4) (I n)) (90 + 5 * K + 4) (w (90 + 5 * K + 4) + w (138 + 11 * f + n))) := V.fdc hR.r0 hv (f := f) hf (fun i hi => lo3 i (by omega)) (fun _ => by
        refine ⟨⟨K, hK, ?_⟩, ⟨p, hp, ?_⟩, ⟨n, by omega, ?_, fun j hj => ?_⟩, ?_, ?_⟩
        · exact (lo3 _ (by omega)).trans eK
        · exact (lo3 _ (by omega)).trans ep
        · show upd _ _ _ (130 + 11 * f + 4) = _
          rw [upd_ne (by omega), upd_eq]
        · obtain ⟨q, hq, eq⟩ := hr j (by omega)
          exact ⟨q, hq, (lo3 _ (by omega)).trans eq⟩
        · rw [show Fb (upd (upd (upd w (138 + 11 * f + n) 0) (130 + 11 * f + 4) (I n)) (90 + 5 * K + 4) (w (90 + 5 * K + 4) + w (138 + 11 * f + n))) f 7 = Fb w f 7 from lo3 _ (by omega)]
          exact d5
        · rw [show Fb (upd (upd (upd w (138 + 11 * f + n) 0) (130 + 11 * f + 4) (I n)) (90 + 5 * K + 4) (w (90 + 5 * K + 4) + w (138 + 11 * f + n))) f 1 = Fb w f 1 from lo3 _ (by omega)]
          exact d6)
      rw [if_neg ne0, if_neg ne0]
      refine AnsW.y (v := w (138 + 11 * f + n)) ?_ ?_ (R.w1 k3 (fun a ha => lo3 _ (by omega)) hv4) Rn.z (by rw [lo3 23 (by omega), Int32.add_zero])
      · unfold D_X2_removeLastReel
        have k0 : gi m (4 + f) 0 = I K := (hR.r0.fd0 hf).trans eK
        have kb : gi m 34 K = w (90 + 5 * K + 4) := hR.r0.bk K 4 (by omega) (by decide)
        rw [g4, if_pos gt0, esub, bnd_s, gi_si_eq, gdI (by omega) (by omega), I_tnc (by omega), gi_si_ne (show 4 + f + 10 ≠ 4 + f ∨ n ≠ 4 by omega), hre, b2_s, gi_si_ne (show 4 + f ≠ 4 + f ∨ 0 ≠ 4 by omega), k0, bnd_s, gdI (by omega) (by omega), gdI (by omega) (by omega), I_tnc (by omega), gi_si_ne (show 34 ≠ 4 + f ∨ K ≠ 4 by omega), kb, bnd_s]
        rfl
      · rw [e8, oReP (by omega) (by omega), b1_s, poReP (by omega) (by omega), b1_s, esub, poFd4P (by omega), b1_s, oFd0P (by omega), b1_s, upd_ne (show 130 + 11 * f ≠ 130 + 11 * f + 4 by omega), upd_ne (show 130 + 11 * f ≠ 138 + 11 * f + n by omega), eK, bks4P (by omega), b1_s, upd_ne (show 90 + 5 * K + 4 ≠ 130 + 11 * f + 4 by omega), upd_ne (show 90 + 5 * K + 4 ≠ 138 + 11 * f + n by omega)]
  · rw [rqi_n (by omega) c1, bX_x, nfdP_n hv v4 c1, b2_s, if10]
    exact AnsW.t0 (by decide) rfl rfl
