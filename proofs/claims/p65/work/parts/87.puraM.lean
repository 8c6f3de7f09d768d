/-! PURE: snapshots -/
def Sn (T : Nat) (h c0 c1 x : MM) : Prop := (gi h 6 0 = gi x 6 0 ∧ gi h 6 1 = gi x 6 1) ∧ (gi h 6 0 ≠ 0 → R c0 (x.1 4) ∧ Rn T (gi x 4 23)) ∧ (gi h 6 1 ≠ 0 → R c1 (x.1 5) ∧ Rn T (gi x 5 23))
theorem slP_y {x : MM} {w : Nat → Int32} {x1 : Int32} (h : ok x1 2) : D_X10_noSlot x1 (pw x w) = some (0, pw (th x 0) w) := by
  unfold D_X10_noSlot
  rw [bnd_s, zeroP, in_ok (n := 2) (by decide), b1_s, if_pos h, if10, tif0P, b2_s, if_pos (Or.inl rfl)]
theorem slP_n {x : MM} {w : Nat → Int32} {x1 : Int32} (h : ¬ ok x1 2) : D_X10_noSlot x1 (pw x w) = some (1, pw (th x 1) w) := by
  unfold D_X10_noSlot
  rw [bnd_s, zeroP, in_ok (n := 2) (by decide), b1_s, if_neg h, if00, tif1P _ _ (by decide), b2_s, if_pos (Or.inr rfl)]
theorem lay_s (x : MM) (w : Nat → Int32) {b : Nat} (hb : b ≠ 1) : ∃ x1 : MM, D_X10_copies 1 b (pw x w) = some (pw x1 w) ∧ (∀ k : Nat, k < 640 → gi x1 b k = w k) ∧ ∀ q k : Nat, q ≠ 1 → q ≠ b → gi x1 q k = gi x q k := by
  obtain ⟨x1, g1, g2, g3⟩ := copies_x 1 b (fun z => hb z.symm) (pw x w)
  have e : x1 = pw x1 w := by
    have : rw1 x1 = w := funext fun k => by
      have := g2 1 k (fun z => hb z.symm)
      rw [giP] at this
      exact this
    rw [← this, pw_self]
  exact ⟨x1, by rw [g1, ← e], fun k hk => by rw [g3 k hk, giP], fun q k h1 h2 => by rw [g2 q k h2, gi_pw h1]⟩
theorem si_pw6 (x : MM) (w : Nat → Int32) (s : Nat) (v : Int32) : si (pw x w) 6 s v = pw (si x 6 s v) w := by
  refine Prod.ext (funext fun q => funext fun j => ?_) rfl
  show gi _ q j = gi _ q j
  by_cases a : q = 1
  · subst a
    rw [gi_si_ne (by omega), giP, giP]
  · by_cases b : q = 6 ∧ j = s
    · rw [gi_si_is b, gi_pw a, gi_si_is b]
    · rw [gi_si_ne (by omega), gi_pw a, gi_pw a, gi_si_ne (by omega)]
theorem T_save {m : MM} {w : Nat → Int32} (hR : R m w) (x h c0 c1 : MM) {T : Nat} (hT : Rn T (w 23)) (hS : Sn T h c0 c1 x) (x1 : Int32) : (∃ (v : Int32) (x' : MM), D_X9_saveSnapshot x1 h m c0 c1 = some (.inl 1) ∧ D_X10_saveSnapshot x1 (pw x w) = some (v, pw x' w) ∧ gi x' 0 6 = 1 ∧ XK x x') ∨ ∃ (v : Int32) (h' c0' c1' x' : MM), D_X9_saveSnapshot x1 h m c0 c1 = some (.inr (v, h', c0', c1')) ∧ D_X10_saveSnapshot x1 (pw x w) = some (v, pw x' w) ∧ gi x' 0 6 = 0 ∧ Sn T h' c0' c1' x' ∧ (∀ q k : Nat, q ≠ 6 → gi h' q k = gi h q k) ∧ ∀ q k : Nat, (q = 0 ∧ (k = 8 ∨ k = 13)) ∨ q = 7 → gi x' q k = gi x q k := by
  obtain ⟨⟨s1, s2⟩, s3, s4⟩ := hS
  unfold D_X9_saveSnapshot D_X10_saveSnapshot
  rw [rqr_ok (n := 2) (by decide)]
  by_cases c : ok x1 2
  · right
    rw [if_pos c, bX_s, slP_y c, b2_s, if00]
    obtain ⟨s, hs, rfl⟩ := ok_ex c
    have hs : s = 0 ∨ s = 1 := by omega
    rcases hs with rfl | rfl
    · obtain ⟨f, y1, y2⟩ := copy_s hR c0
      obtain ⟨xx, a1, a2, a3⟩ := lay_s (th x 0) w (b := 4) (by decide)
      rw [if_pos (show I 0 = (0 : Int32) from rfl), if_pos (show I 0 = (0 : Int32) from rfl), y1, b1_s, a1, b1_s, gdI (by omega) (by omega), gdI (by omega) (by omega), I_tnc (by omega)]
      simp only [bnd_s]
      rw [si_pw6, giP, hR.r0.s23]
      refine ⟨_, _, _, _, _, rfl, rfl, ?_, ⟨⟨?_, ?_⟩, fun _ => ⟨?_, ?_⟩, fun z => ?_⟩, fun q k hq => gi_si_ne (by omega), fun q k hq => ?_⟩
      · rw [gi_si_ne (by omega), a3 0 6 (by decide) (by decide), gi_th6]
      · rw [gi_si_eq, gi_si_eq]
      · rw [gi_si_ne (by omega), gi_si_ne (by omega), a3 6 1 (by decide) (by decide), s2]
        exact (gi_si_ne (by omega)).symm
      · refine y2.cg (fun i hi => ?_)
        show gi (si xx 6 0 _) 4 i = w i
        rw [gi_si_ne (by omega), a2 i hi]
      · rw [gi_si_ne (by omega), a2 23 (by omega)]
        exact hT
      · rw [gi_si_ne (by omega)] at z
        have ee : ∀ i : Nat, gi (si xx 6 0 (vp_nar .boolean (1 : Int32))) 5 i = gi x 5 i := fun i => by
          rw [gi_si_ne (by omega), a3 5 i (by decide) (by decide)]
          exact gi_si_ne (by omega)
        obtain ⟨z1, z2⟩ := s4 z
        exact ⟨z1.cg (fun i _ => ee i), by rw [ee 23]; exact z2⟩
      · rw [gi_si_ne (by omega), a3 q k (by omega) (by omega)]
        exact gi_si_ne (by omega)
    · obtain ⟨f, y1, y2⟩ := copy_s hR c1
      obtain ⟨xx, a1, a2, a3⟩ := lay_s (th x 0) w (b := 5) (by decide)
      rw [if_neg (show ¬ I 1 = (0 : Int32) by decide), if_neg (show ¬ I 1 = (0 : Int32) by decide), if_pos (show I 1 = (1 : Int32) from rfl), y1, b1_s, a1, b1_s, gdI (by omega) (by omega), gdI (by omega) (by omega), I_tnc (by omega)]
      simp only [bnd_s]
      rw [si_pw6, giP, hR.r0.s23]
      refine ⟨_, _, _, _, _, rfl, rfl, ?_, ⟨⟨?_, ?_⟩, fun z => ?_, fun _ => ⟨?_, ?_⟩⟩, fun q k hq => gi_si_ne (by omega), fun q k hq => ?_⟩
      · rw [gi_si_ne (by omega), a3 0 6 (by decide) (by decide), gi_th6]
      · rw [gi_si_ne (by omega), gi_si_ne (by omega), a3 6 0 (by decide) (by decide), s1]
        exact (gi_si_ne (by omega)).symm
      · rw [gi_si_eq, gi_si_eq]
      · rw [gi_si_ne (by omega)] at z
        have ee : ∀ i : Nat, gi (si xx 6 1 (vp_nar .boolean (1 : Int32))) 4 i = gi x 4 i := fun i => by
          rw [gi_si_ne (by omega), a3 4 i (by decide) (by decide)]
          exact gi_si_ne (by omega)
        obtain ⟨z1, z2⟩ := s3 z
        exact ⟨z1.cg (fun i _ => ee i), by rw [ee 23]; exact z2⟩
      · refine y2.cg (fun i hi => ?_)
        show gi (si xx 6 1 _) 5 i = w i
        rw [gi_si_ne (by omega), a2 i hi]
      · rw [gi_si_ne (by omega), a2 23 (by omega)]
        exact hT
      · rw [gi_si_ne (by omega), a3 q k (by omega) (by omega)]
        exact gi_si_ne (by omega)
  · left
    rw [if_neg c, bX_x, slP_n c, b2_s, if10]
    exact ⟨0, th x 1, rfl, rfl, gi_th6 x 1, XK.th x 1⟩
theorem T_restore {m : MM} {w : Nat → Int32} (hR : R m w) (x h c0 c1 : MM) {T : Nat} (hT : Rn T (w 23)) (hS : Sn T h c0 c1 x) (x1 : Int32) : (∃ (v : Int32) (x' : MM), D_X9_restoreSnapshot x1 h m c0 c1 = some (.inl 1) ∧ D_X10_restoreSnapshot x1 (pw x w) = some (v, pw x' w) ∧ gi x' 0 6 = 1 ∧ XK x x') ∨ ∃ (v : Int32) (m' x' : MM) (w' : Nat → Int32), D_X9_restoreSnapshot x1 h m c0 c1 = some (.inr (v, m')) ∧ D_X10_restoreSnapshot x1 (pw x w) = some (v, pw x' w') ∧ gi x' 0 6 = 0 ∧ R m' w' ∧ Rn T (w' 23) ∧ XK x x' := by
  obtain ⟨⟨s1, s2⟩, s3, s4⟩ := hS
  unfold D_X9_restoreSnapshot D_X10_restoreSnapshot
  rw [rqr_ok (n := 2) (by decide)]
  by_cases c : ok x1 2
  · right
    rw [if_pos c, bX_s, slP_y c, b2_s, if00]
    obtain ⟨s, hs, rfl⟩ := ok_ex c
    have e6 : ∀ k : Nat, gi (pw (th x 0) w) 6 k = gi x 6 k := fun k => by
      rw [gi_pw (by decide)]
      exact gi_si_ne (by omega)
    have hs : s = 0 ∨ s = 1 := by omega
    rcases hs with rfl | rfl
    · rw [gdI (by omega) (by omega), gdI (by omega) (by omega), I_tnc (by omega), e6, ← s1, if_pos (show I 0 = (0 : Int32) from rfl), if_pos (show I 0 = (0 : Int32) from rfl)]
      by_cases z : gi h 6 0 = 0
      · rw [if_pos z, if_pos z]
        exact ⟨_, m, th x 0, w, rfl, rfl, gi_th6 x 0, hR, hT, XK.th x 0⟩
      · obtain ⟨r1, r2⟩ := s3 z
        obtain ⟨f, y1, y2⟩ := copy_s r1 m
        obtain ⟨xx, g1, g2, g3⟩ := copies_x 4 1 (by decide) (pw (th x 0) w)
        have ew : ∀ i : Nat, i < 640 → rw1 xx i = x.1 4 i := fun i hi => by
          show gi xx 1 i = gi x 4 i
          rw [g3 i hi, gi_pw (by decide)]
          exact gi_si_ne (by omega)
        rw [if_neg z, if_neg z, y1, b1_s, g1, b1_s, y2.r0.s23]
        refine ⟨_, f, xx, rw1 xx, rfl, ?_, ?_, y2.cg ew, ?_, fun q k hq => ?_⟩
        · rw [pw_self]
          show some (rw1 xx 23, xx) = _
          rw [ew 23 (by omega)]
        · rw [g2 0 6 (by decide), gi_pw (by decide), gi_th6]
        · rw [ew 23 (by omega)]
          exact r2
        · rw [g2 q k (by omega), gi_pw (by omega)]
          exact gi_si_ne (by omega)
    · rw [gdI (by omega) (by omega), gdI (by omega) (by omega), I_tnc (by omega), e6, ← s2, if_neg (show ¬ I 1 = (0 : Int32) by decide), if_neg (show ¬ I 1 = (0 : Int32) by decide), if_pos (show I 1 = (1 : Int32) from rfl)]
      by_cases z : gi h 6 1 = 0
      · rw [if_pos z, if_pos z]
        exact ⟨_, m, th x 0, w, rfl, rfl, gi_th6 x 0, hR, hT, XK.th x 0⟩
      · obtain ⟨r1, r2⟩ := s4 z
        obtain ⟨f, y1, y2⟩ := copy_s r1 m
        obtain ⟨xx, g1, g2, g3⟩ := copies_x 5 1 (by decide) (pw (th x 0) w)
        have ew : ∀ i : Nat, i < 640 → rw1 xx i = x.1 5 i := fun i hi => by
          show gi xx 1 i = gi x 5 i
          rw [g3 i hi, gi_pw (by decide)]
          exact gi_si_ne (by omega)
        rw [if_neg z, if_neg z, y1, b1_s, g1, b1_s, y2.r0.s23]
        refine ⟨_, f, xx, rw1 xx, rfl, ?_, ?_, y2.cg ew, ?_, fun q k hq => ?_⟩
        · rw [pw_self]
          show some (rw1 xx 23, xx) = _
          rw [ew 23 (by omega)]
        · rw [g2 0 6 (by decide), gi_pw (by decide), gi_th6]
        · rw [ew 23 (by omega)]
          exact r2
        · rw [g2 q k (by omega), gi_pw (by omega)]
          exact gi_si_ne (by omega)
  · left
    rw [if_neg c, bX_x, slP_n c, b2_s, if10]
    exact ⟨0, th x 1, rfl, rfl, gi_th6 x 1, XK.th x 1⟩
