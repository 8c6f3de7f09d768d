/-! PURE: calls that only read -/
def Ans {α : Type} (x : MM) (w : Nat → Int32) (k0 k1 : Int32) (c : Option (Nat ⊕ α)) (d : Option (α × MM)) : Prop :=
  (∃ (j : Nat) (v : α) (x' : MM), c = some (.inl j) ∧ (j = 0 ∧ k0 ≠ 0 ∧ gi x' 0 6 = k0 ∨ j = 1 ∧ k1 ≠ 0 ∧ gi x' 0 6 = k1) ∧ d = some (v, pw x' w) ∧ XK x x') ∨
  (∃ (v : α) (x' : MM), c = some (.inr v) ∧ d = some (v, pw x' w) ∧ gi x' 0 6 = 0 ∧ XK x x')
def AnsW (m x : MM) (w : Nat → Int32) (k0 k1 : Int32) (c : Option (Nat ⊕ (Int32 × MM))) (d : Option (Int32 × MM)) : Prop :=
  (∃ (j : Nat) (v : Int32) (x' : MM), c = some (.inl j) ∧ (j = 0 ∧ k0 ≠ 0 ∧ gi x' 0 6 = k0 ∨ j = 1 ∧ k1 ≠ 0 ∧ gi x' 0 6 = k1) ∧ d = some (v, pw x' w) ∧ XK x x') ∨
  (∃ (v : Int32) (m' x' : MM) (w' : Nat → Int32), c = some (.inr (v, m')) ∧ d = some (v, pw x' w') ∧ gi x' 0 6 = 0 ∧ R m' w' ∧ (∃ δ : Int32, Rn 599500 δ ∧ w' 23 = w 23 + δ) ∧ XK x x')
theorem Ans.t0 {α : Type} {x : MM} {w : Nat → Int32} {k0 k1 : Int32} {c : Option (Nat ⊕ α)} {d : Option (α × MM)} {v : α} (h : k0 ≠ 0) (hc : c = some (.inl 0)) (hd : d = some (v, pw (th x k0) w)) : Ans x w k0 k1 c d := Or.inl ⟨0, v, th x k0, hc, Or.inl ⟨rfl, h, gi_th6 x k0⟩, hd, XK.th x k0⟩
theorem Ans.t1 {α : Type} {x : MM} {w : Nat → Int32} {k0 k1 : Int32} {c : Option (Nat ⊕ α)} {d : Option (α × MM)} {v : α} (h : k1 ≠ 0) (hc : c = some (.inl 1)) (hd : d = some (v, pw (th x k1) w)) : Ans x w k0 k1 c d := Or.inl ⟨1, v, th x k1, hc, Or.inr ⟨rfl, h, gi_th6 x k1⟩, hd, XK.th x k1⟩
theorem Ans.y {α : Type} {x : MM} {w : Nat → Int32} {k0 k1 : Int32} {c : Option (Nat ⊕ α)} {d : Option (α × MM)} {v : α} (hc : c = some (.inr v)) (hd : d = some (v, pw (th x 0) w)) : Ans x w k0 k1 c d := Or.inr ⟨v, th x 0, hc, hd, gi_th6 x 0, XK.th x 0⟩
theorem AnsW.t0 {m x : MM} {w : Nat → Int32} {k0 k1 : Int32} {c : Option (Nat ⊕ (Int32 × MM))} {d : Option (Int32 × MM)} {v : Int32} (h : k0 ≠ 0) (hc : c = some (.inl 0)) (hd : d = some (v, pw (th x k0) w)) : AnsW m x w k0 k1 c d := Or.inl ⟨0, v, th x k0, hc, Or.inl ⟨rfl, h, gi_th6 x k0⟩, hd, XK.th x k0⟩
theorem AnsW.t1 {m x : MM} {w : Nat → Int32} {k0 k1 : Int32} {c : Option (Nat ⊕ (Int32 × MM))} {d : Option (Int32 × MM)} {v : Int32} (h : k1 ≠ 0) (hc : c = some (.inl 1)) (hd : d = some (v, pw (th x k1) w)) : AnsW m x w k0 k1 c d := Or.inl ⟨1, v, th x k1, hc, Or.inr ⟨rfl, h, gi_th6 x k1⟩, hd, XK.th x k1⟩
theorem AnsW.y {m m' x : MM} {w w' : Nat → Int32} {k0 k1 : Int32} {c : Option (Nat ⊕ (Int32 × MM))} {d : Option (Int32 × MM)} {v δ : Int32} (hc : c = some (.inr (v, m'))) (hd : d = some (v, pw (th x 0) w')) (hR : R m' w') (hδ : Rn 599500 δ) (eδ : w' 23 = w 23 + δ) : AnsW m x w k0 k1 c d := Or.inr ⟨v, m', th x 0, w', hc, hd, gi_th6 x 0, hR, ⟨δ, hδ, eδ⟩, XK.th x 0⟩
theorem thP (x : MM) (w : Nat → Int32) (c : Int32) : th (pw x w) c = pw (th x c) w := siP0 x w 6 c
theorem tif0P (x : MM) (w : Nat → Int32) (c : Int32) : D_X10_throwsIf (0 : Int32) c (pw (th x 0) w) = some (0, pw (th x 0) w) := tif0 (by rw [gi_pw (by decide), gi_th6]) c
theorem tif1P (x : MM) (w : Nat → Int32) {c : Int32} (hc : c ≠ 0) : D_X10_throwsIf (1 : Int32) c (pw (th x 0) w) = some (1, pw (th x c) w) := by
  rw [tif1 (by rw [gi_pw (by decide), gi_th6]) hc, thP, th_th]
theorem fineP (x : MM) (w : Nat → Int32) : D_X10_fine (pw x w) = some (1, pw (th x 0) w) := by rw [fine_eq, thP]
theorem zeroP (x : MM) (w : Nat → Int32) : si (pw x w) 0 6 (0 : Int32) = pw (th x 0) w := thP x w 0
theorem nspP_y {x : MM} {w : Nat → Int32} {x1 : Int32} (hv : V w) (h4 : nS w ≤ 4) (h : ok x1 (nS w)) : D_X10_noSpindle x1 (pw x w) = some (0, pw (th x 0) w) := by rw [nsp_y (by rw [rw1_pw]; exact hv.cnt.1) (by omega) h, thP]
theorem nspP_n {x : MM} {w : Nat → Int32} {x1 : Int32} (hv : V w) (h4 : nS w ≤ 4) (h : ¬ ok x1 (nS w)) : D_X10_noSpindle x1 (pw x w) = some (1, pw (th x 1) w) := by rw [nsp_n (by rw [rw1_pw]; exact hv.cnt.1) (by omega) h, thP]
theorem nkdP_y {x : MM} {w : Nat → Int32} {x1 : Int32} (hv : V w) (h4 : nK w ≤ 8) (h : ok x1 (nK w)) : D_X10_noKind x1 (pw x w) = some (0, pw (th x 0) w) := by rw [nkd_y (by rw [rw1_pw]; exact hv.cnt.2.2.1) (by omega) h, thP]
theorem nkdP_n {x : MM} {w : Nat → Int32} {x1 : Int32} (hv : V w) (h4 : nK w ≤ 8) (h : ¬ ok x1 (nK w)) : D_X10_noKind x1 (pw x w) = some (1, pw (th x 1) w) := by rw [nkd_n (by rw [rw1_pw]; exact hv.cnt.2.2.1) (by omega) h, thP]
theorem nfdP_y {x : MM} {w : Nat → Int32} {x1 : Int32} (hv : V w) (h4 : nF w ≤ 10) (h : ok x1 (nF w)) : D_X10_noFeeder x1 (pw x w) = some (0, pw (th x 0) w) := by rw [nfd_y (by rw [rw1_pw]; exact hv.cnt.2.2.2.1) (by omega) h, thP]
theorem nfdP_n {x : MM} {w : Nat → Int32} {x1 : Int32} (hv : V w) (h4 : nF w ≤ 10) (h : ¬ ok x1 (nF w)) : D_X10_noFeeder x1 (pw x w) = some (1, pw (th x 1) w) := by rw [nfd_n (by rw [rw1_pw]; exact hv.cnt.2.2.2.1) (by omega) h, thP]
theorem nstP_y {x : MM} {w : Nat → Int32} {x1 : Int32} (hv : V w) (h4 : nP w ≤ 40) (h : ok x1 (nP w)) : D_X10_noSpot x1 (pw x w) = some (0, pw (th x 0) w) := by rw [nst_y (by rw [rw1_pw]; exact hv.cnt.2.2.2.2.1) (by omega) h, thP]
theorem nstP_n {x : MM} {w : Nat → Int32} {x1 : Int32} (hv : V w) (h4 : nP w ≤ 40) (h : ¬ ok x1 (nP w)) : D_X10_noSpot x1 (pw x w) = some (1, pw (th x 1) w) := by rw [nst_n (by rw [rw1_pw]; exact hv.cnt.2.2.2.2.1) (by omega) h, thP]
theorem ityP {x : MM} {w : Nat → Int32} {x1 : Int32} (hv : V w) (h4 : nT w ≤ 6) : D_X10_isType x1 (pw x w) = some (if ok x1 (nT w) then 1 else 0) := ity_e (by rw [rw1_pw]; exact hv.cnt.2.1) (by omega)
theorem ifdP {x : MM} {w : Nat → Int32} {x1 : Int32} (hv : V w) (h4 : nF w ≤ 10) : D_X10_isFeeder x1 (pw x w) = some (if ok x1 (nF w) then 1 else 0) := ifd_e (by rw [rw1_pw]; exact hv.cnt.2.2.2.1) (by omega)
theorem istP {x : MM} {w : Nat → Int32} {x1 : Int32} (hv : V w) (h4 : nP w ≤ 40) : D_X10_isSpot x1 (pw x w) = some (if ok x1 (nP w) then 1 else 0) := ist_e (by rw [rw1_pw]; exact hv.cnt.2.2.2.2.1) (by omega)
theorem oSpG {s j : Nat} (hs : s < 4) (hj : j < 8) (x : MM) (w : Nat → Int32) : D_X10_ofSpindle (I s) (I j) (pw x w) = some (w (58 + 8 * s + j)) := by
  unfold D_X10_ofSpindle
  rw [show ((58 : Int32) + ((8 : Int32) * I s)) + I j = I (58 + 8 * s + j) by rw [show (58 : Int32) = I 58 from rfl, show (8 : Int32) = I 8 from rfl, I_mul, I_add, I_add], gdI (by omega) (by omega), I_tnc (by omega), giP]
theorem oFdG {s j : Nat} (hs : s < 10) (hj : j < 11) (x : MM) (w : Nat → Int32) : D_X10_ofFeeder (I s) (I j) (pw x w) = some (w (130 + 11 * s + j)) := by
  unfold D_X10_ofFeeder
  rw [show ((130 : Int32) + ((11 : Int32) * I s)) + I j = I (130 + 11 * s + j) by rw [show (130 : Int32) = I 130 from rfl, show (11 : Int32) = I 11 from rfl, I_mul, I_add, I_add], gdI (by omega) (by omega), I_tnc (by omega), giP]
theorem oStG {s j : Nat} (hs : s < 40) (hj : j < 6) (x : MM) (w : Nat → Int32) : D_X10_ofSpot (I s) (I j) (pw x w) = some (w (240 + 6 * s + j)) := by
  unfold D_X10_ofSpot
  rw [show ((240 : Int32) + ((6 : Int32) * I s)) + I j = I (240 + 6 * s + j) by rw [show (240 : Int32) = I 240 from rfl, show (6 : Int32) = I 6 from rfl, I_mul, I_add, I_add], gdI (by omega) (by omega), I_tnc (by omega), giP]
theorem b01 {v : Int32} (h : v = 0 ∨ v = 1) : (if v = 0 then some (0 : Int32) else some 1) = some v := by
  rcases h with h | h <;> subst h
  · exact if_pos rfl
  · exact if_neg (by decide)
theorem spV_m {m : MM} {w : Nat → Int32} (h : R0 m w) (hv : V w) {s j : Nat} (hs : s < nS w) (hj : j < 8) : D_X8_valueOf s (I j) m = some (w (58 + 8 * s + j)) := by
  have e := fun (j : Nat) (hj : j < 8) => h.sp s j hs hj
  have e2 : (if gi m s 2 = 0 then some (0 : Int32) else some 1) = some (gi m s 2) := b01 (by rw [e 2 (by decide)]; exact (hv.sp s hs).2.2.1)
  unfold D_X8_valueOf
  rw [e2]
  rcases (show j = 0 ∨ j = 1 ∨ j = 2 ∨ j = 3 ∨ j = 4 ∨ j = 5 ∨ j = 6 ∨ j = 7 by omega) with q | q | q | q | q | q | q | q <;> subst q
  · rw [if_pos (by decide), e 0 hj]
  · rw [if_neg (by decide), if_pos (by decide), e 1 hj]
  · rw [if_neg (by decide), if_neg (by decide), if_pos (by decide), e 2 hj]
  · rw [if_neg (by decide), if_neg (by decide), if_neg (by decide), if_pos (by decide), e 3 hj]
  · rw [if_neg (by decide), if_neg (by decide), if_neg (by decide), if_neg (by decide), if_pos (by decide), e 4 hj]
  · rw [if_neg (by decide), if_neg (by decide), if_neg (by decide), if_neg (by decide), if_neg (by decide), if_pos (by decide), e 5 hj]
  · rw [if_neg (by decide), if_neg (by decide), if_neg (by decide), if_neg (by decide), if_neg (by decide), if_neg (by decide), if_pos (by decide), e 6 hj]
  · rw [if_neg (by decide), if_neg (by decide), if_neg (by decide), if_neg (by decide), if_neg (by decide), if_neg (by decide), if_neg (by decide), e 7 hj]
theorem fdV_m {m : MM} {w : Nat → Int32} (h : R0 m w) (hv : V w) {s j : Nat} (hs : s < nF w) (hj : j < 8) : D_X2_valueOf (4 + s) (I j) m = some (w (130 + 11 * s + j)) := by
  have e2 : (if gi m (4 + s) 8 = 0 then some (0 : Int32) else some 1) = some (gi m (4 + s) 8) := b01 (by rw [h.fd8 hs]; exact (hv.fd s hs).2.2.2.1)
  unfold D_X2_valueOf
  rw [e2, h.fd0 hs, h.fd1 hs, h.fd2 hs, h.fd3 hs, h.fd4 hs, h.fd6 hs, h.fd7 hs, h.fd8 hs]
  rcases (show j = 0 ∨ j = 1 ∨ j = 2 ∨ j = 3 ∨ j = 4 ∨ j = 5 ∨ j = 6 ∨ j = 7 by omega) with q | q | q | q | q | q | q | q <;> subst q
  · rw [if_pos (by decide)]
    rfl
  · rw [if_neg (by decide), if_pos (by decide)]
  · rw [if_neg (by decide), if_neg (by decide), if_pos (by decide)]
  · rw [if_neg (by decide), if_neg (by decide), if_neg (by decide), if_pos (by decide)]
  · rw [if_neg (by decide), if_neg (by decide), if_neg (by decide), if_neg (by decide), if_pos (by decide)]
  · rw [if_neg (by decide), if_neg (by decide), if_neg (by decide), if_neg (by decide), if_neg (by decide), if_pos (by decide)]
  · rw [if_neg (by decide), if_neg (by decide), if_neg (by decide), if_neg (by decide), if_neg (by decide), if_neg (by decide), if_pos (by decide)]
  · rw [if_neg (by decide), if_neg (by decide), if_neg (by decide), if_neg (by decide), if_neg (by decide), if_neg (by decide), if_neg (by decide)]
theorem stV_m {m : MM} {w : Nat → Int32} (h : R0 m w) (hv : V w) {s j : Nat} (hs : s < nP w) (hj : j < 6) : D_X0_valueOf (I s) (I j) m = some (w (240 + 6 * s + j)) := by
  have v5 := h.vc.2.2.2.2.1
  obtain ⟨t1, t2⟩ := h.ta s hs
  obtain ⟨s1, s2, s3⟩ := h.st s hs
  rw [show 244 + 6 * s = 240 + 6 * s + 4 by omega, show 243 + 6 * s = 240 + 6 * s + 3 by omega] at t1
  rw [show 245 + 6 * s = 240 + 6 * s + 5 by omega, show 243 + 6 * s = 240 + 6 * s + 3 by omega] at t2
  rw [show 241 + 6 * s = 240 + 6 * s + 1 by omega] at s2
  rw [show 242 + 6 * s = 240 + 6 * s + 2 by omega] at s3
  unfold D_X0_valueOf
  rw [gdI (by omega) (by omega), gdI (by omega) (by omega), gdI (by omega) (by omega), I_tnc (by omega), isOpen_m h hs, isFilled_m h hs, b1_s, b1_s, b1_s, b1_s, s1, s2, s3, gdJ (by omega) (by omega), gdJ (by omega) (by omega)]
  rcases (show j = 0 ∨ j = 1 ∨ j = 2 ∨ j = 3 ∨ j = 4 ∨ j = 5 by omega) with q | q | q | q | q | q <;> subst q
  · rw [if_pos (by decide)]
    rfl
  · rw [if_neg (by decide), if_pos (by decide)]
  · rw [if_neg (by decide), if_neg (by decide), if_pos (by decide)]
  · rw [if_neg (by decide), if_neg (by decide), if_neg (by decide), if_pos (by decide)]
    rcases (hv.st s hs).2.1 with q | q | q
    · have q : w (240 + 6 * s + 3) = 0 := q
      rw [q]; rfl
    · have q : w (240 + 6 * s + 3) = 1 := q
      rw [q]; rfl
    · have q : w (240 + 6 * s + 3) = 2 := q
      rw [q]; rfl
  · rw [if_neg (by decide), if_neg (by decide), if_neg (by decide), if_neg (by decide), if_pos (by decide), t1]
    by_cases c : w (240 + 6 * s + 3) = 1
    · rw [if_pos c, if_pos c, if10]
    · rw [if_neg c, if_neg c, if00]
  · rw [if_neg (by decide), if_neg (by decide), if_neg (by decide), if_neg (by decide), if_neg (by decide), t2]
    by_cases c : w (240 + 6 * s + 3) = 1
    · rw [if_pos c, if_pos c, if10]
    · rw [if_neg c, if_neg c, if00]
