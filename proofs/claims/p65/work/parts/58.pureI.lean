/-! PURE: the actions -/
theorem R0.sp0 {m : MM} {w : Nat → Int32} (h : R0 m w) {s : Nat} (hs : s < nS w) : gi m s 0 = w (58 + 8 * s) := h.sp s 0 hs (by decide)
theorem R0.fd0 {m : MM} {w : Nat → Int32} (h : R0 m w) {f : Nat} (hf : f < nF w) : gi m (4 + f) 0 = w (130 + 11 * f) := h.fd f 0 hf (by decide)
theorem R0.fd1 {m : MM} {w : Nat → Int32} (h : R0 m w) {f : Nat} (hf : f < nF w) : gi m (4 + f) 1 = w (130 + 11 * f + 1) := h.fd f 1 hf (by decide)
theorem R0.fd2 {m : MM} {w : Nat → Int32} (h : R0 m w) {f : Nat} (hf : f < nF w) : gi m (4 + f) 2 = w (130 + 11 * f + 2) := h.fd f 2 hf (by decide)
theorem R0.fd3 {m : MM} {w : Nat → Int32} (h : R0 m w) {f : Nat} (hf : f < nF w) : gi m (4 + f) 3 = w (130 + 11 * f + 3) := h.fd f 3 hf (by decide)
theorem R0.fd4 {m : MM} {w : Nat → Int32} (h : R0 m w) {f : Nat} (hf : f < nF w) : gi m (4 + f) 4 = w (130 + 11 * f + 4) := h.fd f 4 hf (by decide)
theorem R0.fd6 {m : MM} {w : Nat → Int32} (h : R0 m w) {f : Nat} (hf : f < nF w) : gi m (4 + f) 6 = w (130 + 11 * f + 5) := h.fd f 5 hf (by decide)
theorem R0.fd7 {m : MM} {w : Nat → Int32} (h : R0 m w) {f : Nat} (hf : f < nF w) : gi m (4 + f) 7 = w (130 + 11 * f + 6) := h.fd f 6 hf (by decide)
theorem R0.fd8 {m : MM} {w : Nat → Int32} (h : R0 m w) {f : Nat} (hf : f < nF w) : gi m (4 + f) 8 = w (130 + 11 * f + 7) := h.fd f 7 hf (by decide)
theorem nS_e {w w' : Nat → Int32} (h : w' 15 = w 15) : nS w' = nS w := by unfold nS; rw [h]
theorem nT_e {w w' : Nat → Int32} (h : w' 16 = w 16) : nT w' = nT w := by unfold nT; rw [h]
theorem nK_e {w w' : Nat → Int32} (h : w' 17 = w 17) : nK w' = nK w := by unfold nK; rw [h]
theorem nF_e {w w' : Nat → Int32} (h : w' 18 = w 18) : nF w' = nF w := by unfold nF; rw [h]
theorem nP_e {w w' : Nat → Int32} (h : w' 19 = w 19) : nP w' = nP w := by unfold nP; rw [h]
theorem nQ_e {w w' : Nat → Int32} (h : w' 20 = w 20) : nQ w' = nQ w := by unfold nQ; rw [h]
theorem nL_e {w w' : Nat → Int32} (h : w' 28 = w 28) : nL w' = nL w := by unfold nL; rw [h]
/-- the row of an action: what changes of it -/
theorem V.ac {m : MM} {w w3 : Nat → Int32} (h : R0 m w) (hv : V w) (s f k : Nat) (lo : ∀ i : Nat, (i < 10 ∨ i = 14 ∨ 15 ≤ i ∧ i ≤ 20 ∨ i = 28 ∨ 50 ≤ i ∧ i < 58 ∨ 600 ≤ i ∨ 58 ≤ i ∧ i < 90 ∧ (i < 58 + 8 * s ∨ 66 + 8 * s ≤ i) ∨ 130 ≤ i ∧ i < 240 ∧ (i < 130 + 11 * f ∨ 141 + 11 * f ≤ i) ∨ 240 ≤ i ∧ i < 480 ∧ (i < 240 + 6 * k ∨ 246 + 6 * k ≤ i)) → w3 i = w i) (h21 : Rn 999 (w3 21)) (h22 : Rn 999 (w3 22)) (h29 : w3 29 = 0 ∨ w3 29 = 1) (hs : s < nS w → SpOk (nT w) (nK w) (Sb w3 s)) (hf : f < nF w → FdOk (nK w) (Fb w3 f)) (hk : k < nP w → StOk (nK w) (Kb w3 k)) : V w3 := by
  obtain ⟨v1, v2, v3, v4, v5, v6, v7, v8⟩ := h.vc
  refine hv.fr (fun i hi => lo i (by omega)) (hv.vg.cg (fun i hi => lo i (by omega)) h21 h22) ?_ h29 v6 v3 (fun s' hs' => ?_) (fun f' hf' => ?_) (fun k' hk' => ?_)
  · have e28 := lo 28 (by omega)
    rw [nL_e e28, e28]
    exact hv.cnt.2.2.2.2.2.2
  · by_cases q : s' = s
    · subst q; exact hs hs'
    · exact (hv.sp s' hs').cg (fun j hj => lo _ (by omega))
  · by_cases q : f' = f
    · subst q; exact hf hf'
    · exact (hv.fd f' hf').cg (fun j hj => lo _ (by omega))
  · by_cases q : k' = k
    · subst q; exact hk hk'
    · exact (hv.st k' hk').cg (fun j hj => lo _ (by omega))
/-- the end of each action -/
theorem act_end {m1 : MM} {w w1 : Nat → Int32} (h : R1 (fun a => w (37 + a)) m1 w1) (hv : V w1) {a : Nat} (ha : a < 7) (S T r d : Int32) (e23 : w1 23 = w 23 + d) (e37 : w1 (37 + a) = w (37 + a) + d) (e38 : ∀ a' : Nat, a' < 7 → a' ≠ a → w1 (37 + a') = w (37 + a')) : ∃ m2 : MM, D_X6_perform_116 (I a) S T (w 23) r m1 = some (r, m2) ∧ R m2 (noteW (upd w1 (30 + a) (w1 (30 + a) + 1)) ((((10000 : Int32) * I a) + ((100 : Int32) * S)) + T) r) := by
  have h28 : w1 28 = I (nL w1) := hv.cnt.2.2.2.2.2.2
  have v7 : nL w1 ≤ 40 := h.1.vc.2.2.2.2.2.2.1
  obtain ⟨m8, g8, k8⟩ := note_s h h28 ((((10000 : Int32) * I a) + ((100 : Int32) * S)) + T) r
  unfold D_X6_perform_116 D_X9_codeOf
  rw [b1_s, h.1.s23, g8, b1_s]
  simp (disch := omega) only [bnd_s, gdJ, I_tnc]
  generalize hc : ((((10000 : Int32) * I a) + ((100 : Int32) * S)) + T) = c at k8 g8 ⊢
  have ed : gi m8 49 a = w1 (30 + a) := by
    rw [k8.1.dn a ha, noteW_lo (by omega) (by omega) v7]
  have k12 := k8.wDn ha (w1 (30 + a) + 1)
  rw [noteW_upd w1 c r (w1 (30 + a) + 1) (by omega) (by omega) (by omega) v7] at k12
  have en : nL (upd w1 (30 + a) (w1 (30 + a) + 1)) = nL w1 := nL_u (by omega)
  have lo : ∀ i : Nat, i ≠ 28 → i < 480 ∨ 600 ≤ i → i ≠ 30 + a → noteW (upd w1 (30 + a) (w1 (30 + a) + 1)) c r i = w1 i := fun i h1 h2 h3 => by
    rw [noteW_lo h1 h2 (by rw [en]; exact v7), upd_ne h3]
  have f28 : upd w1 (30 + a) (w1 (30 + a) + 1) 28 = I (nL (upd w1 (30 + a) (w1 (30 + a) + 1))) := by
    rw [en, upd_ne (by omega)]; exact h28
  have es : gi (si m8 49 a (w1 (30 + a) + 1)) 24 13 = w 23 + d := by
    rw [k12.1.s23, lo 23 (by omega) (by omega) (by omega), e23]
  rw [ed, es, add_sub32]
  refine ⟨_, rfl, ⟨k12.1.mTm ha _, fun a' ha' => ?_⟩, ?_⟩
  · show gi _ 50 a' = noteW _ c r (37 + a')
    rw [lo (37 + a') (by omega) (by omega) (by omega)]
    by_cases h9 : a' = a
    · subst h9
      rw [gi_si_eq, e37]
      have k9 := k12.2 a' ha'
      simp (disch := omega) only [gi_si_ne] at k9 ⊢
      rw [k9]
    · rw [gi_si_ne (by omega), e38 a' ha' h9]
      exact k12.2 a' ha'
  · refine hv.fr (fun i hi => lo i (by omega) (by omega) (by omega)) ?_ ?_ ?_ h.1.vc.2.2.2.2.2.1 h.1.vc.2.2.1 (fun s hs => ?_) (fun f hf => ?_) (fun k hk => ?_)
    · exact hv.vg.cg (fun i hi => lo i (by omega) (by omega) (by omega)) (by rw [lo 21 (by omega) (by omega) (by omega)]; exact hv.vg.2.2.2.2.1) (by rw [lo 22 (by omega) (by omega) (by omega)]; exact hv.vg.2.2.2.2.2)
    · rw [nL_noteW f28 (by rw [en]; exact v7), noteW_28 f28]
    · rw [lo 29 (by omega) (by omega) (by omega)]
      exact hv.hlt
    · have := h.1.vc.1
      exact (hv.sp s hs).cg (fun j hj => lo _ (by omega) (by omega) (by omega))
    · have := h.1.vc.2.2.2.1
      exact (hv.fd f hf).cg (fun j hj => lo _ (by omega) (by omega) (by omega))
    · have := h.1.vc.2.2.2.2.1
      exact (hv.st k hk).cg (fun j hj => lo _ (by omega) (by omega) (by omega))
theorem notes_x' {w : Nat → Int32} (x : MM) (hv : V w) (hL : nL w ≤ 40) {a : Nat} (ha : a < 7) (S T r : Int32) : D_X10_notes (I a) S T r (pw x w) = some (r, pw x (noteW (upd w (30 + a) (w (30 + a) + 1)) ((((10000 : Int32) * I a) + ((100 : Int32) * S)) + T) r)) := notes_x x hv.cnt.2.2.2.2.2.2 hL ha S T r
/-- what both sides of an action say -/
def Act (a : Nat) (S T : Int32) (m x : MM) (w : Nat → Int32) (o : Option (Int32 × MM)) : Prop := ∃ (r : Int32) (m' : MM) (w' : Nat → Int32), D_X6_perform (I a) S T m = some (r, m') ∧ o = some (r, pw x w') ∧ R m' w' ∧ ∃ d : Int32, Rn 1199 d ∧ w' 23 = w 23 + d ∧ Rn 2 r ∧ ∀ i : Nat, 15 ≤ i → i ≤ 20 → w' i = w i
theorem act_fin {m x : MM} {w w3 : Nat → Int32} {a : Nat} (ha : a < 7) (S T r d : Int32) (hd : Rn 1199 d) (hr : Rn 2 r) {m3 : MM} (k3 : R1 (fun a => w (37 + a)) m3 w3) (hv3 : V w3) (e23 : w3 23 = w 23 + d) (e37 : w3 (37 + a) = w (37 + a) + d) (e38 : ∀ i : Nat, (15 ≤ i ∧ i ≤ 20 ∨ 37 ≤ i ∧ i < 44 ∧ i ≠ 37 + a) → w3 i = w i) {o : Option (Int32 × MM)} (hc : D_X6_perform (I a) S T m = D_X6_perform_116 (I a) S T (w 23) r m3) (hx : o = D_X10_notes (I a) S T r (pw x w3)) : Act a S T m x w o := by
  obtain ⟨m4, g4, k4⟩ := act_end k3 hv3 ha S T r d e23 e37 (fun a' h1 h2 => e38 (37 + a') (by omega))
  have v7 := k3.1.vc.2.2.2.2.2.2.1
  refine ⟨r, m4, _, by rw [hc, g4], by rw [hx, notes_x' x hv3 v7 ha], k4, d, hd, ?_, hr, fun i h1 h2 => ?_⟩
  · rw [noteW_lo (by omega) (by omega) (by rw [nL_u (by omega)]; exact v7), upd_ne (by omega), e23]
  · rw [noteW_lo (by omega) (by omega) (by rw [nL_u (by omega)]; exact v7), upd_ne (by omega), e38 i (by omega)]
-- a change
def W33 (w : Nat → Int32) (s t : Nat) : Nat → Int32 := upd (upd (upd (upd w (44 + t) (w (44 + t) - 1)) (58 + 8 * s) (I t)) (58 + 8 * s + 7) 0) (58 + 8 * s + 5) (w (58 + 8 * s + 5) + 1)
theorem ch33_s {τ : Nat → Int32} {m : MM} {w : Nat → Int32} (k : R1 τ m w) {s t : Nat} (hs : s < nS w) (ht : t < nT w) : ∃ m' : MM, D_X6_changeTo_33 s (I t) m = some m' ∧ R1 τ m' (W33 w s t) := by
  obtain ⟨v1, v2, -⟩ := k.1.vc
  have e1 : gi m 27 t = w (44 + t) := k.1.fr t ht
  have e2 : gi m s 5 = w (58 + 8 * s + 5) := k.1.sp s 5 hs (by decide)
  unfold D_X6_changeTo_33
  simp (disch := omega) only [gdJ, I_tnc, bnd_s, gi_si_ne, e1, e2]
  exact ⟨_, rfl, (((k.wFr (by omega) _).wSp (j := 0) (by omega) (by decide) _).wSp (by omega) (by decide) _).wSp (by omega) (by decide) _⟩
theorem ch74_x (x : MM) {w : Nat → Int32} {s t : Nat} (hs : s < 4) (ht : t < 6) : D_X10_changes_74 (I s) (I t) (pw x w) = D_X10_notes (1 : Int32) (I s) (I t) (1 : Int32) (pw x (W33 w s t)) := by
  unfold D_X10_changes_74
  rw [ix44, bnd_s, gdI (by omega) (by omega), gdI (by omega) (by omega), bnd_s, I_tnc (by omega), giP, siP, poSp0 hs, b1_s, rw1_pw, pw_pw, poSp7 hs, b1_s, rw1_pw, pw_pw, oSp5 hs, b1_s, rw1_pw, poSp5 hs, b1_s, rw1_pw, pw_pw, b2_id]
  have e : upd (upd (upd w (44 + t) (w (44 + t) - 1)) (58 + 8 * s) (I t)) (58 + 8 * s + 7) 0 (58 + 8 * s + 5) = w (58 + 8 * s + 5) := by
    rw [upd_ne (by omega), upd_ne (by omega), upd_ne (by omega)]
  rw [e]
  rfl
theorem change_s {m : MM} {w : Nat → Int32} (h : R m w) (x : MM) {s t : Nat} (hs : s < nS w) (ht : t < nT w) (h1 : w (58 + 8 * s + 1) = -1) (h2 : w (58 + 8 * s) ≠ I t) (h3 : w (44 + t) ≠ 0) : Act 1 (I s) (I t) m x w (D_X10_changes (I s) (I t) (pw x w)) := by
  obtain ⟨v1, v2, v3, v4, v5, v6, v7, v8⟩ := h.r0.vc
  have hv := h.v
  obtain ⟨m1, g1, k1⟩ := goTo_s h.1 hv.spd (a := 1) (by decide) 0 0 (w 1)
  have gx : D_X10_goes (1 : Int32) 0 0 (w 1) (pw x w) = some (pw x (goesW w 1 0 0 (w 1))) := goes_x x hv.spd (a := 1) (by decide) _ _ _
  have lo : ∀ i : Nat, i ≠ 21 → i ≠ 22 → i ≠ 23 → i ≠ 38 → goesW w 1 0 0 (w 1) i = w i := fun i i1 i2 i3 i4 => by
    unfold goesW
    simp (disch := omega) only [upd_ne]
  have l23 : goesW w 1 0 0 (w 1) 23 = w 23 + (way w 0 0 + w 1) := by
    unfold goesW
    rw [upd_ne (by omega), upd_eq]
  have l38 : goesW w 1 0 0 (w 1) 38 = w 38 + (way w 0 0 + w 1) := by
    unfold goesW
    rw [upd_eq]
  have m21 : goesW w 1 0 0 (w 1) 21 = 0 := by
    unfold goesW
    rw [upd_ne (by omega), upd_ne (by omega), upd_ne (by omega), upd_eq]
  have m22 : goesW w 1 0 0 (w 1) 22 = 0 := by
    unfold goesW
    rw [upd_ne (by omega), upd_ne (by omega), upd_eq]
  generalize goesW w 1 0 0 (w 1) = w1 at g1 k1 gx lo l23 l38 m21 m22
  have e1 : gi m 25 1 = w 1 := h.r0.set 1 (by decide)
  have f1 : gi m1 s 0 = w (58 + 8 * s) := by
    rw [k1.1.sp0 (by rw [nS_e (lo 15 (by omega) (by omega) (by omega) (by omega))]; exact hs), lo _ (by omega) (by omega) (by omega) (by omega)]
  -- the row behind the nozzle that goes back
  have hmid : ∃ w2 : Nat → Int32, (∃ m2 : MM, D_X6_changeTo s (I t) m = D_X6_changeTo_33 s (I t) m2 ∧ R1 (fun a => w (37 + a)) m2 w2) ∧ D_X10_changes (I s) (I t) (pw x w) = D_X10_changes_74 (I s) (I t) (pw x w2) ∧ ∀ i : Nat, i < 44 ∨ 50 ≤ i → w2 i = w1 i := by
    have ex : ∀ F : Int32 → MM → Option (Int32 × MM), True := fun _ => trivial
    unfold D_X6_changeTo D_X10_changes
    rw [e1, g1, b1_s, f1]
    simp (disch := omega) only [oSp1, oSp0, rw1_pw, b1_s, ix44, gdJ, I_tnc, giP]
    rw [if_pos h1, if_neg h2, if_neg h3, gx, b1_s]
    rcases (hv.sp s hs).1 with q | ⟨t0, ht0, q⟩
    · have q : w (58 + 8 * s) = -1 := q
      rw [q, if_pos rfl, if_pos rfl]
      exact ⟨w1, ⟨m1, rfl, k1⟩, rfl, fun i _ => rfl⟩
    · have q : w (58 + 8 * s) = I t0 := q
      rw [q, if_neg (I_ne_neg (by omega)), if_neg (I_ne_neg (by omega))]
      have e2 : gi m1 27 t0 = w1 (44 + t0) := k1.1.fr t0 (by rw [nT_e (lo 16 (by omega) (by omega) (by omega) (by omega))]; exact ht0)
      simp (disch := omega) only [bnd_s, ix44, gdJ, I_tnc, giP, siP, e2]
      exact ⟨_, ⟨_, rfl, k1.wFr (by omega) _⟩, rfl, fun i hi => upd_ne (by omega)⟩
  obtain ⟨w2, ⟨m2, c2, k2⟩, x2, lo2⟩ := hmid
  obtain ⟨m3, g3, k3⟩ := ch33_s k2 (s := s) (t := t) (by rw [nS_e ((lo2 15 (by omega)).trans (lo 15 (by omega) (by omega) (by omega) (by omega)))]; exact hs) (by rw [nT_e ((lo2 16 (by omega)).trans (lo 16 (by omega) (by omega) (by omega) (by omega)))]; exact ht)
  have lo3 : ∀ i : Nat, i ≠ 21 ∧ i ≠ 22 ∧ i ≠ 23 ∧ i ≠ 38 ∧ (i < 44 ∨ 50 ≤ i) ∧ i ≠ 58 + 8 * s ∧ i ≠ 58 + 8 * s + 7 ∧ i ≠ 58 + 8 * s + 5 → W33 w2 s t i = w i := fun i hi => by
    unfold W33
    simp (disch := omega) only [upd_ne]
    rw [lo2 i (by omega), lo i (by omega) (by omega) (by omega) (by omega)]
  have l3 : W33 w2 s t 23 = w 23 + (way w 0 0 + w 1) := by
    unfold W33
    simp (disch := omega) only [upd_ne]
    rw [lo2 23 (by omega), l23]
  have l4 : W33 w2 s t 38 = w 38 + (way w 0 0 + w 1) := by
    unfold W33
    simp (disch := omega) only [upd_ne]
    rw [lo2 38 (by omega), l38]
  have l21 : W33 w2 s t 21 = 0 := by
    unfold W33
    simp (disch := omega) only [upd_ne]
    rw [lo2 21 (by omega), m21]
  have l22 : W33 w2 s t 22 = 0 := by
    unfold W33
    simp (disch := omega) only [upd_ne]
    rw [lo2 22 (by omega), m22]
  have l5 : W33 w2 s t (58 + 8 * s) = I t := by
    unfold W33
    simp (disch := omega) only [upd_ne, upd_is]
  have hv3 : V (W33 w2 s t) := by
    refine hv.ac h.r0 s 100 100 (fun i hi => lo3 i (by omega)) (by rw [l21]; exact Rn.z) (by rw [l22]; exact Rn.z) ?_ (fun hs' => ?_) (fun z => by omega) (fun z => by omega)
    · rw [lo3 29 (by omega)]
      exact hv.hlt
    · obtain ⟨-, p2, p3, p4⟩ := hv.sp s hs'
      have z1 : Sb (W33 w2 s t) s 1 = Sb w s 1 := lo3 _ (by omega)
      have z2 : Sb (W33 w2 s t) s 2 = Sb w s 2 := lo3 _ (by omega)
      have z3 : Sb (W33 w2 s t) s 3 = Sb w s 3 := lo3 _ (by omega)
      refine ⟨Or.inr ⟨t, ht, l5⟩, ?_, ?_, ?_⟩
      · rw [z1]; exact p2
      · rw [z2]; exact p3
      · rw [z1, z2, z3]; exact p4
  refine act_fin (a := 1) (by decide) (I s) (I t) 1 (way w 0 0 + w 1) (way_d hv.vg Rn.z Rn.z (hv.vg.2.1 1 (Or.inl rfl))) ⟨1, by decide, rfl⟩ k3 hv3 l3 l4 (fun a' h7 => lo3 _ (by omega)) ?_ ?_
  · have e23 : gi m 24 13 = w 23 := h.r0.s23
    unfold D_X6_perform
    rw [gdI (by omega) (by omega), bnd_s, if_pos (show I 1 = 1 from rfl), I_tnc (by omega), c2, g3, b1_s, e23]
  · rw [x2, ch74_x x (by omega) (by omega)]
    rfl
