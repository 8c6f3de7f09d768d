/-! PROPERTY: actions keep it -/
def Bd (w : Nat → Int32) : Prop := nS w ≤ 4 ∧ nT w ≤ 6 ∧ nK w ≤ 8 ∧ nF w ≤ 10 ∧ nP w ≤ 40 ∧ nL w ≤ 40 ∧ ∀ f : Nat, f < nF w → wt w f ≤ 3
theorem R0.bd {m : MM} {w : Nat → Int32} (h : R0 m w) : Bd w := by
  obtain ⟨v1, v2, v3, v4, v5, v6, v7, v8⟩ := h.vc
  exact ⟨v1, v2, v3, v4, v5, v7, v8⟩
theorem Bd.fr {w w' : Nat → Int32} (h : Bd w) (c : ∀ i : Nat, 15 ≤ i ∧ i ≤ 19 ∨ i = 28 → w' i = w i) (f : ∀ f : Nat, f < 10 → w' (134 + 11 * f) = w (134 + 11 * f)) : Bd w' := by
  obtain ⟨b1, b2, b3, b4, b5, b6, b7⟩ := h
  have eF := nF_e (c 18 (by omega))
  refine ⟨by rw [nS_e (c 15 (by omega))]; exact b1, by rw [nT_e (c 16 (by omega))]; exact b2, by rw [nK_e (c 17 (by omega))]; exact b3, by rw [eF]; exact b4, by rw [nP_e (c 19 (by omega))]; exact b5, by rw [nL_e (c 28 (by omega))]; exact b6, fun g hg => ?_⟩
  rw [eF] at hg
  unfold wt
  rw [f g (by omega)]
  exact b7 g hg
theorem Inv.fr' {N : Nat → Nat} {e : Int32} {w w' : Nat → Int32} (h : Inv N e w) (hb : Bd w) (c : ∀ i : Nat, 15 ≤ i ∧ i ≤ 20 ∨ i = 23 ∨ i = 28 ∨ 31 ≤ i ∧ i < 58 ∨ 90 ≤ i ∧ i < 130 → w' i = w i) (sp : ∀ s j : Nat, s < 4 → (j = 0 ∨ j = 1 ∨ j = 5) → w' (58 + 8 * s + j) = w (58 + 8 * s + j)) (fd : ∀ f j : Nat, f < 10 → (j = 0 ∨ j = 2 ∨ j = 4 ∨ 8 ≤ j ∧ j < 11) → w' (130 + 11 * f + j) = w (130 + 11 * f + j)) (st : ∀ k j : Nat, k < 40 → (j = 3 ∨ j = 4 ∨ j = 5) → w' (240 + 6 * k + j) = w (240 + 6 * k + j)) : Inv N e w' := h.fr hb.1 hb.2.2.1 hb.2.2.2.1 hb.2.2.2.2.1 hb.2.1 hb.2.2.2.2.2.2 c sp fd st
/-- the head goes -/
theorem inv_goes {N : Nat → Nat} {e : Int32} {w : Nat → Int32} {a : Nat} (ha : 1 ≤ a ∧ a < 7) (h : Inv N e w) (hb : Bd w) {X Y T : Int32} (hd : Rn 1199 (way w X Y + T)) : Inv (up1 N) e (goesW w a X Y T) := by
  obtain ⟨d, dd, ed⟩ := hd
  exact inv_time (N' := up1 N) (fun _ ht => up1_lo ht) ha h hb.1 hb.2.2.1 hb.2.2.2.1 hb.2.2.2.2.1 hb.2.1 hb.2.2.2.2.2.2 (d := d) (by rw [up1_6]; omega) (by rw [goesW_23, ed]) (by rw [goesW_37, ed]) (fun i h1 h2 h3 h4 => goesW_lo ⟨h1, h2, h3, h4⟩)
theorem bd_goes {w : Nat → Int32} {a : Nat} (ha : 1 ≤ a ∧ a < 7) (hb : Bd w) {X Y T : Int32} : Bd (goesW w a X Y T) := hb.fr (fun i hi => goesW_lo (by omega)) (fun f hf => goesW_lo (by omega))
/-- an action ends -/
theorem inv_fin {N : Nat → Nat} {w : Nat → Int32} {a : Nat} (ha : 1 ≤ a ∧ a < 7) (h : Inv (up1 N) (if a = 1 then 1 else 0) w) (hb : Bd w) (hc : w 28 = I (nL w)) (x : MM) (S T r : Int32) : ∃ w' : Nat → Int32, D_X10_notes (I a) S T r (pw x w) = some (r, pw x w') ∧ Inv (upk 1 N) 0 w' ∧ w' 27 = w 27 := ⟨_, notes_x x hc hb.2.2.2.2.2.1 (by omega) S T r, inv_note (N := up1 N) (N' := upk 1 N) (fun _ ht => (upk_lo ht).trans (up1_lo ht).symm) (by rw [up1_6, upk_6]; omega) ha h hc hb.1 hb.2.2.1 hb.2.2.2.1 hb.2.2.2.2.1 hb.2.1 hb.2.2.2.2.2.1 hb.2.2.2.2.2.2 _ r, by rw [noteW_lo (by omega) (by omega) (by rw [nL_e (upd_ne (by omega))]; exact hb.2.2.2.2.2.1), upd_ne (by omega)]⟩
theorem nL28 {w w' : Nat → Int32} (h : w 28 = I (nL w)) (e : w' 28 = w 28) : w' 28 = I (nL w') := by rw [nL_e e, e]; exact h
theorem inv_clean {N : Nat → Nat} {m : MM} {w : Nat → Int32} (h : R m w) (hI : Inv N 0 w) (x : MM) {s : Nat} (hs : s < nS w) (h1 : w (58 + 8 * s + 1) = -1) (h2 : w (58 + 8 * s) ≠ -1) : ∃ w' : Nat → Int32, D_X10_cleans (I s) (pw x w) = some (1, pw x w') ∧ Inv (upk 1 N) 0 w' ∧ w' 27 = w 27 := by
  have hb := h.r0.bd
  have h4 := hb.1
  have hv := h.v
  have g1 : Inv (up1 N) 0 (goesW w 6 0 0 (w 14)) := inv_goes (by omega) hI hb (way_d hv.vg Rn.z Rn.z (hv.vg.2.1 14 (by omega)))
  have g2 : Bd (goesW w 6 0 0 (w 14)) := bd_goes (by omega) hb
  have g3 : Inv (up1 N) 0 (upd (goesW w 6 0 0 (w 14)) (58 + 8 * s + 7) 0) := g1.fr' g2 (fun i hi => upd_ne (by omega)) (fun i j h1 h2 => upd_ne (by omega)) (fun i j h1 h2 => upd_ne (by omega)) (fun i j h1 h2 => upd_ne (by omega))
  have g4 : Bd (upd (goesW w 6 0 0 (w 14)) (58 + 8 * s + 7) 0) := g2.fr (fun i hi => upd_ne (by omega)) (fun f hf => upd_ne (by omega))
  obtain ⟨w', e1, e2, e3⟩ := inv_fin (a := 6) (by omega) g3 g4 (nL28 hv.cnt.2.2.2.2.2.2 (wr_lo (by omega) (goesW_lo (by omega)))) x (I s) 0 1
  refine ⟨w', ?_, e2, e3.trans (wr_lo (by omega) (goesW_lo (by omega)))⟩
  have gx : D_X10_goes (6 : Int32) 0 0 (w 14) (pw x w) = some (pw x (goesW w 6 0 0 (w 14))) := goes_x x hv.spd (a := 6) (by decide) _ _ _
  unfold D_X10_cleans
  rw [oSp1P (by omega), b1_s, if_pos h1, oSp0P (by omega), b1_s, if_neg h2, giP, gx, b1_s, poSp7P (by omega), b1_s, b2_id]
  exact e1
/-- a part leaves its spindle, and is booked as placed (1) or rejected (2) -/
theorem inv_drop {N : Nat → Nat} {e : Int32} {w w' : Nat → Int32} (h : Inv N e w) (hb : Bd w) {s K c : Nat} (hs : s < nS w) (hK : K < nK w) (hc : c = 1 ∨ c = 2) (q : w (58 + 8 * s + 1) = I K) (q' : w' (58 + 8 * s + 1) = -1) (qb : w' (90 + 5 * K + c) = w (90 + 5 * K + c) + 1) (o : ∀ i : Nat, i ≠ 90 + 5 * K + c → i ≠ 58 + 8 * s + 1 → i ≠ 58 + 8 * s + 2 → i ≠ 58 + 8 * s + 3 → i ≠ 58 + 8 * s + 4 → i ≠ 58 + 8 * s + 6 → w' i = w i) : Inv N e w' := by
  obtain ⟨v1, v2, v3, v4, v5, v6, v7⟩ := hb
  obtain ⟨i1, ⟨D, i2, i3⟩, i4, i5, i6, i7, U, i8, i9⟩ := h
  have o' : ∀ i : Nat, (i < 58 ∨ 130 ≤ i) → w' i = w i := fun i hi => o i (by omega) (by omega) (by omega) (by omega) (by omega) (by omega)
  have eS := nS_e (o' 15 (by omega))
  have eT := nT_e (o' 16 (by omega))
  have eK := nK_e (o' 17 (by omega))
  have eF := nF_e (o' 18 (by omega))
  have eP := nP_e (o' 19 (by omega))
  have eL := nL_e (o' 28 (by omega))
  refine ⟨?_, ⟨D, fun b h1 h2 => by rw [o' _ (by omega)]; exact i2 b h1 h2, by rw [eL]; exact i3⟩, fun t ht => ?_, ?_, fun i hi L hL h1 => ?_, fun L hL => ?_, U, by rw [o' 23 (by omega)]; exact i8, fun k hk h1 => ?_⟩
  · rw [o' 38 (by omega), o' 39 (by omega), o' 40 (by omega), o' 41 (by omega), o' 42 (by omega), o' 43 (by omega), o' 23 (by omega)]
    exact i1
  · rw [eT] at ht
    obtain ⟨f, f1, f2, f3⟩ := i4 t ht
    refine ⟨f, f1, by rw [o' _ (by omega)]; exact f2, ?_⟩
    rw [eS]
    have : nzC w' t (nS w) = nzC w t (nS w) := cntP_congr (fun i hi => by
      show decide (w' (58 + 8 * i) = I t) = decide (w (58 + 8 * i) = I t)
      rw [o _ (by omega) (by omega) (by omega) (by omega) (by omega) (by omega)])
    rw [this]
    exact f3
  · rw [eS, chS_cg (nS w) (fun i hi => o _ (by omega) (by omega) (by omega) (by omega) (by omega) (by omega)), o' 31 (by omega)]
    exact i5
  · rw [eS] at hi
    rw [eK] at hL
    by_cases c1 : i = s
    · subst c1
      rw [q'] at h1
      exact absurd h1.symm (I_ne_neg (by omega))
    · rw [o _ (by omega) (by omega) (by omega) (by omega) (by omega) (by omega)] at h1
      rw [o _ (by omega) (by omega) (by omega) (by omega) (by omega) (by omega), o' _ (by omega)]
      exact i6 i hi L hL h1
  · rw [eK] at hL
    have hin : inR w' (I L) (nF w') = inR w (I L) (nF w) := by
      rw [eF]
      exact inR_cg (nF w) (fun f j hf hj => o' _ (by omega)) v7
    have hh := cntP_one (p := heldP w (I L)) (q := heldP w' (I L)) (s := s) (nS w) (fun i hi hn => by
      show decide (w' (58 + 8 * i + 1) = I L) = decide (w (58 + 8 * i + 1) = I L)
      rw [o _ (by omega) (by omega) (by omega) (by omega) (by omega) (by omega)]) hs
    have z' : heldP w' (I L) s = false := decide_eq_false (by rw [q']; exact fun z => (I_ne_neg (by omega)) z.symm)
    rw [z'] at hh
    have b0 := i7 L hL
    by_cases c1 : L = K
    · subst c1
      have z : heldP w (I L) s = true := decide_eq_true q
      rw [z] at hh
      have hh : heldC w' (I L) + 1 = heldC w (I L) := by
        unfold heldC
        rw [eS]
        exact hh
      have b0 : (0 : Int32) + I (inR w (I L) (nF w)) + I (heldC w (I L)) + w (90 + 5 * L + 1) + w (90 + 5 * L + 2) + w (90 + 5 * L + 3) + w (90 + 5 * L + 4) = w (90 + 5 * L) := b0
      show (0 : Int32) + I (inR w' (I L) (nF w')) + I (heldC w' (I L)) + w' (90 + 5 * L + 1) + w' (90 + 5 * L + 2) + w' (90 + 5 * L + 3) + w' (90 + 5 * L + 4) = w' (90 + 5 * L)
      rw [hin, o (90 + 5 * L) (by omega) (by omega) (by omega) (by omega) (by omega) (by omega), ← b0, ← hh, ← I_add]
      rcases hc with rfl | rfl
      · rw [qb, o (90 + 5 * L + 2) (by omega) (by omega) (by omega) (by omega) (by omega) (by omega), o (90 + 5 * L + 3) (by omega) (by omega) (by omega) (by omega) (by omega) (by omega), o (90 + 5 * L + 4) (by omega) (by omega) (by omega) (by omega) (by omega) (by omega), show (1 : Int32) = I 1 from rfl]
        ac_rfl
      · rw [qb, o (90 + 5 * L + 1) (by omega) (by omega) (by omega) (by omega) (by omega) (by omega), o (90 + 5 * L + 3) (by omega) (by omega) (by omega) (by omega) (by omega) (by omega), o (90 + 5 * L + 4) (by omega) (by omega) (by omega) (by omega) (by omega) (by omega), show (1 : Int32) = I 1 from rfl]
        ac_rfl
    · have z : heldP w (I L) s = false := decide_eq_false (by rw [q]; exact fun z => c1 ((I_inj (by omega) (by omega)).mp z).symm)
      rw [z] at hh
      refine tol_cg (fun j hj => o _ (by omega) (by omega) (by omega) (by omega) (by omega) (by omega)) hin ?_ b0
      unfold heldC
      rw [eS]
      exact hh
  · rw [eP] at hk
    rw [o' _ (by omega)] at h1
    rw [o' _ (by omega), o' _ (by omega)]
    exact i9 k hk h1
theorem inv_rej {N : Nat → Nat} {e : Int32} {w : Nat → Int32} (h : Inv N e w) (hb : Bd w) {s K : Nat} (hs : s < nS w) (hK : K < nK w) (q : w (58 + 8 * s + 1) = I K) : Inv N e (rejW w s K) ∧ Bd (rejW w s K) := by
  have h4 := hb.1
  have h8 := hb.2.2.1
  refine ⟨inv_drop h hb hs hK (Or.inr rfl) q ?_ ?_ (fun i h1 h2 h3 h4 h5 h6 => rejW_lo ⟨h1, h6, h2, h3, h4⟩), hb.fr (fun i hi => rejW_lo (by omega)) (fun f hf => rejW_lo (by omega))⟩
  · unfold rejW
    rw [upd_ne (by omega), upd_ne (by omega), upd_eq]
  · unfold rejW
    rw [upd_ne (by omega), upd_ne (by omega), upd_ne (by omega), upd_ne (by omega), upd_eq]
theorem inv_discard {N : Nat → Nat} {m : MM} {w : Nat → Int32} (h : R m w) (hI : Inv N 0 w) (x : MM) {s : Nat} (hs : s < nS w) (h1 : w (58 + 8 * s + 1) ≠ -1) : ∃ w' : Nat → Int32, D_X10_discards (I s) (pw x w) = some (1, pw x w') ∧ Inv (upk 1 N) 0 w' ∧ w' 27 = w 27 := by
  have hb := h.r0.bd
  have hv := h.v
  have h4 := hb.1
  have h8 := hb.2.2.1
  obtain ⟨K, hK, q⟩ : ∃ K : Nat, K < nK w ∧ w (58 + 8 * s + 1) = I K := (hv.sp s hs).2.1.resolve_left h1
  obtain ⟨g1, g2⟩ := inv_rej hI hb hs hK q
  obtain ⟨w', e1, e2, e3⟩ := inv_fin (a := 5) (by omega) (g1.go1 g2.2.1) g2 (nL28 hv.cnt.2.2.2.2.2.2 (rejW_lo (by omega))) x (I s) 0 1
  refine ⟨w', ?_, e2, e3.trans (rejW_lo (by omega))⟩
  unfold D_X10_discards
  rw [oSp1P (by omega), b1_s, if_neg h1, rej_x x (by omega) (by omega) q, b1_s, b2_id]
  exact e1
theorem inv_look {N : Nat → Nat} {m : MM} {w : Nat → Int32} (h : R m w) (hI : Inv N 0 w) (x : MM) {s : Nat} (hs : s < nS w) (h1 : w (58 + 8 * s + 1) ≠ -1) (h2 : w (58 + 8 * s + 2) ≠ 1) : ∃ (r : Int32) (w' : Nat → Int32), D_X10_looks (I s) (pw x w) = some (r, pw x w') ∧ Inv (upk 1 N) 0 w' ∧ w' 27 = w 27 := by
  have hb := h.r0.bd
  have hv := h.v
  have h4 := hb.1
  have h8 := hb.2.2.1
  obtain ⟨K, hK, q⟩ : ∃ K : Nat, K < nK w ∧ w (58 + 8 * s + 1) = I K := (hv.sp s hs).2.1.resolve_left h1
  have g1 : Inv (up1 N) 0 (goesW w 3 (w 8) (w 9) (w 3)) := inv_goes (by omega) hI hb (way_d hv.vg hv.vg.2.2.1 hv.vg.2.2.2.1 (hv.vg.2.1 3 (by omega)))
  have g2 : Bd (goesW w 3 (w 8) (w 9) (w 3)) := bd_goes (by omega) hb
  have lo : ∀ i : Nat, i ≠ 10 → i ≠ 58 + 8 * s + 3 → lookW w s i = goesW w 3 (w 8) (w 9) (w 3) i := fun i z1 z2 => wr_lo z2 (drawW_lo z1)
  have g3 : Inv (up1 N) 0 (lookW w s) := g1.fr' g2 (fun i hi => lo i (by omega) (by omega)) (fun i j h1 h2 => lo _ (by omega) (by omega)) (fun i j h1 h2 => lo _ (by omega) (by omega)) (fun i j h1 h2 => lo _ (by omega) (by omega))
  have g4 : Bd (lookW w s) := g2.fr (fun i hi => lo i (by omega) (by omega)) (fun f hf => lo _ (by omega) (by omega))
  have c28 : lookW w s 28 = w 28 := lookW_lo (by omega)
  have c27 : lookW w s 27 = w 27 := lookW_lo (by omega)
  have n28 := nL28 hv.cnt.2.2.2.2.2.2 c28
  have rej : ∃ (r : Int32) (w' : Nat → Int32), D_X10_looks_152 (I s) (pw x (lookW w s)) = some (r, pw x w') ∧ Inv (upk 1 N) 0 w' ∧ w' 27 = w 27 := by
    obtain ⟨j1, j2⟩ := inv_rej g3 g4 (s := s) (K := K) (by rw [nS_e (lookW_lo (by omega))]; exact hs) (by rw [nK_e (lookW_lo (by omega))]; exact hK) ((lookW_lo (by omega)).trans q)
    have k1 : ∀ v : Int32, Inv (up1 N) 0 (upd (rejW (lookW w s) s K) 25 v) := fun v => j1.fr' j2 (fun i hi => upd_ne (by omega)) (fun i j h1 h2 => upd_ne (by omega)) (fun i j h1 h2 => upd_ne (by omega)) (fun i j h1 h2 => upd_ne (by omega))
    have k2 : ∀ v : Int32, Bd (upd (rejW (lookW w s) s K) 25 v) := fun v => j2.fr (fun i hi => upd_ne (by omega)) (fun f hf => upd_ne (by omega))
    have k3 : ∀ v : Int32, upd (rejW (lookW w s) s K) 25 v 28 = I (nL (upd (rejW (lookW w s) s K) 25 v)) := fun v => nL28 n28 (wr_lo (by omega) (rejW_lo (by omega)))
    obtain ⟨w', e1, e2, e2'⟩ := inv_fin (a := 3) (by omega) (k1 (rejW (lookW w s) s K 25 + 1)) (k2 _) (k3 _) x (I s) 0 2
    have e2' : w' 27 = w 27 := e2'.trans ((upd_ne (by omega)).trans ((rejW_lo (by omega)).trans c27))
    have k4 : Inv (up1 N) 0 (upd (upd (rejW (lookW w s) s K) 25 (rejW (lookW w s) s K 25 + 1)) 29 1) := (k1 _).fr' (k2 _) (fun i hi => upd_ne (by omega)) (fun i j h1 h2 => upd_ne (by omega)) (fun i j h1 h2 => upd_ne (by omega)) (fun i j h1 h2 => upd_ne (by omega))
    obtain ⟨w2, e3, e4, e4'⟩ := inv_fin (a := 3) (by omega) k4 ((k2 _).fr (fun i hi => upd_ne (by omega)) (fun f hf => upd_ne (by omega))) (nL28 (k3 _) (upd_ne (by omega))) x (I s) 0 2
    have e4' : w2 27 = w 27 := e4'.trans ((upd_ne (by omega)).trans ((upd_ne (by omega)).trans ((rejW_lo (by omega)).trans c27)))
    unfold D_X10_looks_152
    rw [rej_x x (by omega) (by omega) ((lookW_lo (by omega)).trans q), b1_s, bnd_s, giP, siP, giP, giP, bnd_s, siP, b2_id, b2_id]
    by_cases c1 : upd (rejW (lookW w s) s K) 25 (rejW (lookW w s) s K 25 + 1) 11 ≤ 0
    · rw [if_pos c1]
      exact ⟨2, w', e1, e2, e2'⟩
    · rw [if_neg c1]
      by_cases c2 : upd (rejW (lookW w s) s K) 25 (rejW (lookW w s) s K 25 + 1) 25 < upd (rejW (lookW w s) s K) 25 (rejW (lookW w s) s K 25 + 1) 11
      · rw [if_pos c2]
        exact ⟨2, w', e1, e2, e2'⟩
      · rw [if_neg c2]
        exact ⟨2, w2, e3, e4, e4'⟩
  rw [looks_x hv x (by omega) h1 h2]
  by_cases c1 : lookW w s 5 ≤ drv (lookW w s)
  · rw [if_pos c1]
    by_cases c2 : (lookW w s 5 + lookW w s 6) ≤ drv (lookW w s)
    · rw [if_pos c2]
      exact rej
    · rw [if_neg c2]
      by_cases c3 : lookW w s 7 < lookW w s (58 + 8 * s + 3)
      · rw [if_pos c3]
        exact rej
      · rw [if_neg c3]
        obtain ⟨w', e1, e2, e3⟩ := inv_fin (a := 3) (by omega) g3 g4 n28 x (I s) 0 0
        exact ⟨0, w', e1, e2, e3.trans c27⟩
  · rw [if_neg c1]
    have lo2 : ∀ i : Nat, i ≠ 58 + 8 * s + 2 → i ≠ 25 → i ≠ 26 → upd (upd (upd (lookW w s) (58 + 8 * s + 2) 1) 25 0) 26 (lookW w s 26 + 1) i = lookW w s i := fun i z1 z2 z3 => by rw [upd_ne z3, upd_ne z2, upd_ne z1]
    have k1 : Inv (up1 N) 0 (upd (upd (upd (lookW w s) (58 + 8 * s + 2) 1) 25 0) 26 (lookW w s 26 + 1)) := g3.fr' g4 (fun i hi => lo2 i (by omega) (by omega) (by omega)) (fun i j h1 h2 => lo2 _ (by omega) (by omega) (by omega)) (fun i j h1 h2 => lo2 _ (by omega) (by omega) (by omega)) (fun i j h1 h2 => lo2 _ (by omega) (by omega) (by omega))
    have k2 : Bd (upd (upd (upd (lookW w s) (58 + 8 * s + 2) 1) 25 0) 26 (lookW w s 26 + 1)) := g4.fr (fun i hi => lo2 i (by omega) (by omega) (by omega)) (fun f hf => lo2 _ (by omega) (by omega) (by omega))
    obtain ⟨w', e1, e2, e3⟩ := inv_fin (a := 3) (by omega) k1 k2 (nL28 n28 (lo2 28 (by omega) (by omega) (by omega))) x (I s) 0 1
    exact ⟨1, w', e1, e2, e3.trans ((lo2 27 (by omega) (by omega) (by omega)).trans c27)⟩
