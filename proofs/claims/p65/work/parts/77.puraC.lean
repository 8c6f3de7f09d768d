/-! PURE: calls that do actions -/
theorem AnsW.act {m x : MM} {w : Nat → Int32} {k0 k1 : Int32} {a : Nat} {S T : Int32} {c : Option (Nat ⊕ (Int32 × MM))} {d : Option (Int32 × MM)} (hc : c = lif (D_X6_perform (I a) S T m)) (hA : Act a S T m (th x 0) w d) : AnsW m x w k0 k1 c d := by
  obtain ⟨r, m', w', p1, p2, p3, δ, hδ, eδ, -⟩ := hA
  exact AnsW.y (by rw [hc, p1]; rfl) p2 p3 (hδ.mono (by decide)) eδ
theorem AnsW.same {m x : MM} {w : Nat → Int32} {k0 k1 : Int32} {c : Option (Nat ⊕ (Int32 × MM))} {d : Option (Int32 × MM)} {v : Int32} (hR : R m w) (hc : c = some (.inr (v, m))) (hd : d = some (v, pw (th x 0) w)) : AnsW m x w k0 k1 c d := AnsW.y hc hd hR Rn.z (by rw [Int32.add_zero])
theorem T_changeNozzle {m : MM} {w : Nat → Int32} (hR : R m w) (x h : MM) (x1 x2 : Int32) : AnsW m x w 1 0 (D_X9_changeNozzle x1 x2 h m) (D_X10_changeNozzle x1 x2 (pw x w)) := by
  obtain ⟨v1, v2, v3, v4, v5, v6, v7, v8⟩ := hR.r0.vc
  have hv := hR.v
  unfold D_X9_changeNozzle D_X10_changeNozzle
  rw [hR.r0.n15 hv, hR.r0.n16 hv]
  by_cases c1 : ok x1 (nS w)
  · obtain ⟨s, hs, rfl⟩ := ok_ex c1
    rw [rqi_y (by omega) c1, bX_s, nspP_y hv v1 c1, b2_s, if00, ityP hv v2, b1_s]
    by_cases c2 : ok x2 (nT w)
    · obtain ⟨t, ht, rfl⟩ := ok_ex c2
      have e1 : gi m s 1 = w (58 + 8 * s + 1) := hR.r0.sp s 1 hs (by decide)
      rw [rqi_y (by omega) c2, bX_s, if_pos c2, if10, tif0P, b2_s, if00, b2_id, b2_id, gdI (by omega) (by omega), I_tnc (by omega), e1, hR.r0.sp0 hs, gdI (by omega) (by omega), I_tnc (by omega), hR.r0.fr t ht]
      by_cases h1 : w (58 + 8 * s + 1) = -1
      · by_cases h2 : w (58 + 8 * s) = I t
        · refine AnsW.same (v := -5) hR ?_ ?_
          · rw [if_pos h1, if_pos h2]; rfl
          · unfold D_X10_changes
            rw [oSp1P (by omega), b1_s, if_pos h1, oSp0P (by omega), b1_s, if_pos h2]
        · by_cases h3 : w (44 + t) = 0
          · refine AnsW.same (v := -4) hR ?_ ?_
            · rw [if_pos h1, if_neg h2, if_pos h3]; rfl
            · unfold D_X10_changes
              rw [oSp1P (by omega), b1_s, if_pos h1, oSp0P (by omega), b1_s, if_neg h2, ix44, gdI (by omega) (by omega), I_tnc (by omega), giP, if_pos h3]
          · refine AnsW.act (a := 1) (S := I s) (T := I t) ?_ (change_s hR (th x 0) hs ht h1 h2 h3)
            rw [if_pos h1, if_neg h2, if_neg h3]
            rfl
      · refine AnsW.same (v := -3) hR ?_ ?_
        · rw [if_neg h1]; rfl
        · unfold D_X10_changes
          rw [oSp1P (by omega), b1_s, if_neg h1]
    · rw [rqi_n (by omega) c2, bX_x, if_neg c2, if00, tif1P _ _ (by decide), b2_s, if10]
      exact AnsW.t0 (by decide) rfl rfl
  · rw [rqi_n (by omega) c1, bX_x, nspP_n hv v1 c1, b2_s, if10]
    exact AnsW.t0 (by decide) rfl rfl
theorem T_pick {m : MM} {w : Nat → Int32} (hR : R m w) (x h : MM) (x1 x2 : Int32) : AnsW m x w 1 0 (D_X9_pick x1 x2 h m) (D_X10_pick x1 x2 (pw x w)) := by
  obtain ⟨v1, v2, v3, v4, v5, v6, v7, v8⟩ := hR.r0.vc
  have hv := hR.v
  unfold D_X9_pick D_X10_pick
  rw [hR.r0.n15 hv, hR.r0.n18 hv]
  by_cases c1 : ok x1 (nS w)
  · obtain ⟨s, hs, rfl⟩ := ok_ex c1
    rw [rqi_y (by omega) c1, bX_s, nspP_y hv v1 c1, b2_s, if00, ifdP hv v4, b1_s]
    by_cases c2 : ok x2 (nF w)
    · obtain ⟨f, hf, rfl⟩ := ok_ex c2
      obtain ⟨K, hK, eK⟩ := (hv.fd f hf).1
      have eK : w (130 + 11 * f) = I K := eK
      have e1 : gi m s 1 = w (58 + 8 * s + 1) := hR.r0.sp s 1 hs (by decide)
      rw [rqi_y (by omega) c2, bX_s, if_pos c2, if10, tif0P, b2_s, if00, b2_id, b2_id, gdI (by omega) (by omega), gdI (by omega) (by omega), I_tnc (by omega), I_tnc (by omega), e1, hR.r0.sp0 hs, hR.r0.fd0 hf, eK, gdI (by omega) (by omega), I_tnc (by omega), hR.r0.nz K hK, hR.r0.fd2 hf]
      by_cases h1 : w (58 + 8 * s + 1) = -1
      · by_cases h2 : w (58 + 8 * s) = w (50 + K)
        · by_cases h3 : w (130 + 11 * f + 2) = 0
          · refine AnsW.same (v := -4) hR ?_ ?_
            · rw [if_pos h1, if_pos h2, if_pos h3]; rfl
            · unfold D_X10_picks
              rw [oFd0P (by omega), b1_s, oSp1P (by omega), b1_s, if_pos h1, oSp0P (by omega), b1_s, eK, ix50, gdI (by omega) (by omega), I_tnc (by omega), giP, if_pos h2, oFd2P (by omega), b1_s, if_pos h3]
          · refine AnsW.act (a := 2) (S := I s) (T := I f) ?_ (pick_s hR (th x 0) hs hf h1 (fun K' hK' q => by
              have := (I_inj (by omega) (by omega)).mp (eK.symm.trans q)
              subst this
              exact h2) h3)
            rw [if_pos h1, if_pos h2, if_neg h3]
            rfl
        · refine AnsW.same (v := -5) hR ?_ ?_
          · rw [if_pos h1, if_neg h2]; rfl
          · unfold D_X10_picks
            rw [oFd0P (by omega), b1_s, oSp1P (by omega), b1_s, if_pos h1, oSp0P (by omega), b1_s, eK, ix50, gdI (by omega) (by omega), I_tnc (by omega), giP, if_neg h2]
      · refine AnsW.same (v := -3) hR ?_ ?_
        · rw [if_neg h1]; rfl
        · unfold D_X10_picks
          rw [oFd0P (by omega), b1_s, oSp1P (by omega), b1_s, if_neg h1]
    · rw [rqi_n (by omega) c2, bX_x, if_neg c2, if00, tif1P _ _ (by decide), b2_s, if10]
      exact AnsW.t0 (by decide) rfl rfl
  · rw [rqi_n (by omega) c1, bX_x, nspP_n hv v1 c1, b2_s, if10]
    exact AnsW.t0 (by decide) rfl rfl
theorem T_look {m : MM} {w : Nat → Int32} (hR : R m w) (x h : MM) (x1 : Int32) : AnsW m x w 1 0 (D_X9_look x1 h m) (D_X10_look x1 (pw x w)) := by
  obtain ⟨v1, v2, v3, v4, v5, v6, v7, v8⟩ := hR.r0.vc
  have hv := hR.v
  unfold D_X9_look D_X10_look
  rw [hR.r0.n15 hv]
  by_cases c1 : ok x1 (nS w)
  · obtain ⟨s, hs, rfl⟩ := ok_ex c1
    have e1 : gi m s 1 = w (58 + 8 * s + 1) := hR.r0.sp s 1 hs (by decide)
    have e2 : gi m s 2 = w (58 + 8 * s + 2) := hR.r0.sp s 2 hs (by decide)
    rw [rqi_y (by omega) c1, bX_s, nspP_y hv v1 c1, b2_s, if00, b2_id, b2_id, gdI (by omega) (by omega), I_tnc (by omega), e1, e2]
    by_cases h1 : w (58 + 8 * s + 1) = -1
    · refine AnsW.same (v := -3) hR ?_ ?_
      · rw [if_pos h1]; rfl
      · unfold D_X10_looks
        rw [oSp1P (by omega), b1_s, if_pos h1]
    · rcases (hv.sp s hs).2.2.1 with q | q
      · have q : w (58 + 8 * s + 2) = 0 := q
        refine AnsW.act (a := 3) (S := I s) (T := 0) ?_ (look_s hR (th x 0) hs h1 (by rw [q]; decide))
        rw [if_neg h1, if_pos q]
        rfl
      · have q : w (58 + 8 * s + 2) = 1 := q
        refine AnsW.same (v := -3) hR ?_ ?_
        · rw [if_neg h1, if_neg (by rw [q]; decide)]; rfl
        · unfold D_X10_looks
          rw [oSp1P (by omega), b1_s, if_neg h1, oSp2P (by omega), b1_s, if_pos q]
  · rw [rqi_n (by omega) c1, bX_x, nspP_n hv v1 c1, b2_s, if10]
    exact AnsW.t0 (by decide) rfl rfl
theorem T_discard {m : MM} {w : Nat → Int32} (hR : R m w) (x h : MM) (x1 : Int32) : AnsW m x w 1 0 (D_X9_discard x1 h m) (D_X10_discard x1 (pw x w)) := by
  obtain ⟨v1, v2, v3, v4, v5, v6, v7, v8⟩ := hR.r0.vc
  have hv := hR.v
  unfold D_X9_discard D_X10_discard
  rw [hR.r0.n15 hv]
  by_cases c1 : ok x1 (nS w)
  · obtain ⟨s, hs, rfl⟩ := ok_ex c1
    have e1 : gi m s 1 = w (58 + 8 * s + 1) := hR.r0.sp s 1 hs (by decide)
    rw [rqi_y (by omega) c1, bX_s, nspP_y hv v1 c1, b2_s, if00, b2_id, b2_id, gdI (by omega) (by omega), I_tnc (by omega), e1]
    by_cases h1 : w (58 + 8 * s + 1) = -1
    · refine AnsW.same (v := -3) hR ?_ ?_
      · rw [if_pos h1]; rfl
      · unfold D_X10_discards
        rw [oSp1P (by omega), b1_s, if_pos h1]
    · refine AnsW.act (a := 5) (S := I s) (T := 0) ?_ (discard_s hR (th x 0) hs h1)
      rw [if_neg h1]
      rfl
  · rw [rqi_n (by omega) c1, bX_x, nspP_n hv v1 c1, b2_s, if10]
    exact AnsW.t0 (by decide) rfl rfl
theorem T_clean {m : MM} {w : Nat → Int32} (hR : R m w) (x h : MM) (x1 : Int32) : AnsW m x w 1 0 (D_X9_clean x1 h m) (D_X10_clean x1 (pw x w)) := by
  obtain ⟨v1, v2, v3, v4, v5, v6, v7, v8⟩ := hR.r0.vc
  have hv := hR.v
  unfold D_X9_clean D_X10_clean
  rw [hR.r0.n15 hv]
  by_cases c1 : ok x1 (nS w)
  · obtain ⟨s, hs, rfl⟩ := ok_ex c1
    have e1 : gi m s 1 = w (58 + 8 * s + 1) := hR.r0.sp s 1 hs (by decide)
    rw [rqi_y (by omega) c1, bX_s, nspP_y hv v1 c1, b2_s, if00, b2_id, b2_id, gdI (by omega) (by omega), I_tnc (by omega), e1, hR.r0.sp0 hs]
    by_cases h1 : w (58 + 8 * s + 1) = -1
    · by_cases h2 : w (58 + 8 * s) = -1
      · refine AnsW.same (v := -4) hR ?_ ?_
        · rw [if_pos h1, if_pos h2]; rfl
        · unfold D_X10_cleans
          rw [oSp1P (by omega), b1_s, if_pos h1, oSp0P (by omega), b1_s, if_pos h2]
      · refine AnsW.act (a := 6) (S := I s) (T := 0) ?_ (clean_s hR (th x 0) hs h1 h2)
        rw [if_pos h1, if_neg h2]
        rfl
    · refine AnsW.same (v := -3) hR ?_ ?_
      · rw [if_neg h1]; rfl
      · unfold D_X10_cleans
        rw [oSp1P (by omega), b1_s, if_neg h1]
  · rw [rqi_n (by omega) c1, bX_x, nspP_n hv v1 c1, b2_s, if10]
    exact AnsW.t0 (by decide) rfl rfl
theorem bl_m {m : MM} {w : Nat → Int32} (h : R0 m w) (x : MM) (hv : V w) {s : Nat} (hs : s < nP w) : ∃ G H : Int64, D_X0_firstsOf ((1 : Int64) <<< ((I s).toInt64 &&& 63)) m = some G ∧ D_X10_openBefore (I s) (pw x w) = some H ∧ G &&& gl m 36 7 = H := by
  obtain ⟨v1, v2, v3, v4, v5, v6, -⟩ := h.vc
  obtain ⟨G, g1, g2⟩ := firsts_m h hv ((1 : Int64) <<< ((I s).toInt64 &&& 63))
  obtain ⟨H, h1, h2, -⟩ := ob_x x hv v5 v6 s
  refine ⟨G, H, g1, h1, tb_xt (fun k hk => ?_)⟩
  rw [tb_and, Bool.and_eq_true, g2 k hk, h.op' hk, h2 k hk]
  constructor
  · rintro ⟨⟨b, b1', b2', i, hi, q1, q2⟩, q3, q4⟩
    rw [tb_bit (by omega), decide_eq_true_iff] at b2'
    subst b2'
    exact ⟨i, hi, q2, q1, q4⟩
  · rintro ⟨i, hi, q1, q2, q3⟩
    obtain ⟨ρ, hr⟩ := hv.pr
    obtain ⟨a', b', ha', hb', f1, f2, -⟩ := hr i hi
    have ek := (I_inj (by omega) (by omega)).mp (q2.symm.trans f1)
    exact ⟨⟨s, by omega, by rw [tb_bit (by omega)]; exact decide_eq_true rfl, i, hi, q2, q1⟩, by omega, q3⟩
theorem T_place {m : MM} {w : Nat → Int32} (hR : R m w) (x h : MM) (x1 x2 : Int32) : AnsW m x w 1 0 (D_X9_place x1 x2 h m) (D_X10_place x1 x2 (pw x w)) := by
  obtain ⟨v1, v2, v3, v4, v5, v6, v7, v8⟩ := hR.r0.vc
  have hv := hR.v
  unfold D_X9_place D_X10_place
  rw [hR.r0.n15 hv, hR.r0.n19 hv]
  by_cases c1 : ok x1 (nS w)
  · obtain ⟨s, hs, rfl⟩ := ok_ex c1
    rw [rqi_y (by omega) c1, bX_s, nspP_y hv v1 c1, b2_s, if00, istP hv v5, b1_s]
    by_cases c2 : ok x2 (nP w)
    · obtain ⟨k, hk, rfl⟩ := ok_ex c2
      obtain ⟨G, H, g1, g2, g3⟩ := bl_m hR.r0 (th x 0) hv hk
      have e1 : gi m s 1 = w (58 + 8 * s + 1) := hR.r0.sp s 1 hs (by decide)
      have e2 : gi m s 2 = w (58 + 8 * s + 2) := hR.r0.sp s 2 hs (by decide)
      rw [rqi_y (by omega) c2, bX_s, if_pos c2, if10, tif0P, b2_s, if00, b2_id, b2_id, gdI (by omega) (by omega), I_tnc (by omega), e1, e2, isOpen_m hR.r0 hk, b1_s, gdI (by omega) (by omega), I_tnc (by omega), (hR.r0.st k hk).1, g1, b1_s, g3]
      by_cases h1 : w (58 + 8 * s + 1) = -1
      · refine AnsW.same (v := -3) hR ?_ ?_
        · rw [if_pos h1]; rfl
        · unfold D_X10_places
          rw [oSp1P (by omega), b1_s, if_pos h1]
      · by_cases h2 : w (58 + 8 * s + 2) = 0
        · refine AnsW.same (v := -3) hR ?_ ?_
          · rw [if_neg h1, if_pos h2]; rfl
          · unfold D_X10_places
            rw [oSp1P (by omega), b1_s, if_neg h1, oSp2P (by omega), b1_s, if_pos h2]
        · by_cases h3 : w (240 + 6 * k + 3) = 0
          · by_cases h4 : w (240 + 6 * k) = w (58 + 8 * s + 1)
            · by_cases h5 : H = 0
              · obtain ⟨K, hK, q⟩ : ∃ K : Nat, K < nK w ∧ w (58 + 8 * s + 1) = I K := (hv.sp s hs).2.1.resolve_left h1
                refine AnsW.act (a := 4) (S := I s) (T := I k) ?_ (place_s hR (th x 0) hs hk hK q h2 h3 (h4.trans q) (by rw [g2, h5]))
                rw [if_neg h1, if_neg h2, if_pos h3, if10, if_pos h4.symm, if_pos h5]
                rfl
              · refine AnsW.same (v := -6) hR ?_ ?_
                · rw [if_neg h1, if_neg h2, if_pos h3, if10, if_pos h4.symm, if_neg h5]; rfl
                · unfold D_X10_places
                  rw [oSp1P (by omega), b1_s, if_neg h1, oSp2P (by omega), b1_s, if_neg h2, oSt3P (by omega), b1_s, if_pos h3, oSt0P (by omega), b1_s, if_pos h4, g2, b1_s, if_neg h5]
            · refine AnsW.same (v := -5) hR ?_ ?_
              · rw [if_neg h1, if_neg h2, if_pos h3, if10, if_neg (fun z => h4 z.symm)]; rfl
              · unfold D_X10_places
                rw [oSp1P (by omega), b1_s, if_neg h1, oSp2P (by omega), b1_s, if_neg h2, oSt3P (by omega), b1_s, if_pos h3, oSt0P (by omega), b1_s, if_neg h4]
          · refine AnsW.same (v := -3) hR ?_ ?_
            · rw [if_neg h1, if_neg h2, if_neg h3, if00]; rfl
            · unfold D_X10_places
              rw [oSp1P (by omega), b1_s, if_neg h1, oSp2P (by omega), b1_s, if_neg h2, oSt3P (by omega), b1_s, if_neg h3]
    · rw [rqi_n (by omega) c2, bX_x, if_neg c2, if00, tif1P _ _ (by decide), b2_s, if10]
      exact AnsW.t0 (by decide) rfl rfl
  · rw [rqi_n (by omega) c1, bX_x, nspP_n hv v1 c1, b2_s, if10]
    exact AnsW.t0 (by decide) rfl rfl
