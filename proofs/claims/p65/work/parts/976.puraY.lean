/-! PURE: reading a text: nozzles, kinds, feeders, spots, pairs -/
theorem FX.s0 (x : MM) {k : Nat} (v : Int32) (hk : 9 ≤ k ∧ k ≠ 13) : FX x (si x 0 k v) := (F0z.s x v hk).x
theorem Jd.s0 {L : Nat} {T : Nat → Nat} {h x : MM} {p : Nat} (hJ : Jd L T h x p) (v : Int32) : Jd L T h (si x 0 10 v) p := ⟨hJ.1, hJ.2.1.fr (by rw [gi_si_ne (by omega)]; exact hJ.2.1.2.2.1) hJ.1.1 (gi_si_ne (by omega)) (fun k => gi_si_ne (by omega)), hJ.2.2.1, by rw [gi_si_ne (by omega)]; exact hJ.2.2.2⟩
theorem row_s0 (x : MM) (k : Nat) (v : Int32) : (si x 0 k v).1 3 = x.1 3 := funext fun i => gi_si_ne (m := x) (by omega)
theorem row_s3 (x : MM) (k : Nat) (v : Int32) : (si x 3 k v).1 3 = upd (x.1 3) k v := by
  show va_up x.1 3 (upd (x.1 3) k v) 3 = _
  unfold va_up
  rw [if_pos rfl]
theorem Jd.s3 {L : Nat} {T : Nat → Nat} {h x : MM} {p : Nat} (hJ : Jd L T h x p) (k : Nat) (v : Int32) : Jd L T h (si x 3 k v) p := ⟨hJ.1, hJ.2.1.fr (by rw [gi_si_ne (by omega)]; exact hJ.2.1.2.2.1) hJ.1.1 (gi_si_ne (by omega)) (fun k => gi_si_ne (by omega)), hJ.2.2.1, by rw [gi_si_ne (by omega)]; exact hJ.2.2.2⟩
theorem nz55 (k2 : Int32 → MM → MM → Option (MM × MM)) (c : Nat) (h f : MM) : D_X1_readNozzles_55 k2 (I c) h f = b2 (D_X1_readNumber (1 : Int32) (4 : Int32) h f) (fun v4 m5 => if (gi m5 4 6) = 0 then (b1 (D_X6_addType v4 f) (fun m8 => k2 (I (c + 1)) m5 m8)) else (k2 (I (c + 1)) m5 f)) := by
  unfold D_X1_readNozzles_55
  simp only [bnd_s, ixs1]
theorem nz_end {c n : Nat} {h f : MM} (e : gi h 4 6 ≠ 0) : D_X1_readNozzles_2 (n + 1) (I c) h f = some (h, f) := by
  rw [D_X1_readNozzles_2, if_neg e, ite_self]
theorem nz_l {L : Nat} {T : Nat → Nat} (ht : Tok L T) : ∀ (d c n n' : Nat) (h f x : MM) (p : Nat), nT (x.1 3) + d = 6 → c ≤ nT (x.1 3) → d + 1 < n → d + 1 < n' → JS L T h f x p → Out L T p h x (D_X1_readNozzles_26 (D_X1_readNozzles_2 n) (I c) h f) (D_X10_readNozzles_2 n' (1 : Int32) x) := by
  intro d
  induction d with
  | zero =>
    intro c n n' h f x p hd hc hn hn' ⟨hJ, hR, hz⟩
    obtain ⟨n, rfl⟩ : ∃ n0 : Nat, n = n0 + 1 := ⟨n - 1, by omega⟩
    obtain ⟨n', rfl⟩ : ∃ n0 : Nat, n' = n0 + 1 := ⟨n' - 1, by omega⟩
    obtain ⟨h1, a1, a2, a3⟩ := atd_s ht f hJ.1
    obtain ⟨x1, s1, s2, s3, s4⟩ := see_s ht hJ.2.1
    have hpb : p ≤ nx sP T L p := nx_ge
    have hnb : nx sP T L p < L → ¬ sP (T (nx sP T L p)) = true := nx_no hJ.1.1
    have hbL := a3.1
    have hL := ht.1
    generalize hb : nx sP T L p = b at a1 a3 s1 s3 s4 hpb hnb hbL
    have g6 : gi h1 4 6 = 0 := by rw [a2 4 6 (by omega)]; exact hJ.2.2.1
    have g12 : gi x1 0 12 = 0 := by rw [s2 0 12 (by omega)]; exact hJ.2.2.2
    have e16 : gi f 24 3 = (6 : Int32) := by
      rw [hR.r0.n16 hR.v, show nT (x.1 3) = 6 by omega]
      rfl
    have e16x : gi x1 3 16 = (6 : Int32) := by
      rw [s2 3 16 (by omega)]
      show x.1 3 16 = _
      rw [hR.v.cnt.2.1, show nT (x.1 3) = 6 by omega]
      rfl
    unfold D_X1_readNozzles_26
    rw [a1, b2_s, D_X10_readNozzles_2, if10, s1, b2_s, if_pos e16x, s3.2.2.1, isd_x ht s3.2.1 s3.2.2.2 (by omega), b1_s]
    by_cases g : b < L ∧ dP (T b) = true
    · rw [if_pos g, if10, if_pos e16, if10, a3.2.2.1]
      obtain ⟨h5, x5, y1, y2, y3, y4, y5⟩ := fail_s f (e := 3) (by omega) g6 g12 s4
      have y1 : D_X1_fail (3 : Int32) (I b) h1 f = some h5 := y1
      have y2 : D_X10_fails (3 : Int32) x1 = some (0, x5) := y2
      rw [y1, b1_s, f_bool _ _ _ y2 (Or.inl rfl)]
      exact Or.inl ⟨h5, f, x5, rfl, rfl, y3, a2.h.tr y4, (s2.z.tr y5).x⟩
    · rw [if_neg g, if00, if00, nz55]
      unfold D_X10_readNozzles_40
      have hbb : nx sP T L b = b := nx_at hnb
      rw [e16x, show (44 : Int32) + (6 : Int32) = I 50 from rfl]
      rcases into_s ht f (h := h1) (x := x1) (p := b) ⟨a3, s3, g6, g12⟩ (a := 1) (B := 5) (by omega) (by omega) (lo := 1) (hi := 4) rfl (by decide) (pl := 50) (by omega) with ⟨v, h', x', c1, c2, c3, c4, c5⟩ | ⟨n, p', h', x', a0, _⟩
      · rw [c1, b2_s, if_neg c3.2.1, nz_end c3.2.1, c2, b2_s, if00]
        exact Or.inl ⟨h', f, x', rfl, rfl, c3, a2.h.tr c4, s2.z.x.tr c5⟩
      · rw [hbb] at a0
        exact absurd a0 g
  | succ d ih =>
    intro c n n' h f x p hd hc hn hn' ⟨hJ, hR, hz⟩
    obtain ⟨n, rfl⟩ : ∃ n0 : Nat, n = n0 + 1 := ⟨n - 1, by omega⟩
    obtain ⟨n', rfl⟩ : ∃ n0 : Nat, n' = n0 + 2 := ⟨n' - 2, by omega⟩
    obtain ⟨h1, a1, a2, a3⟩ := atd_s ht f hJ.1
    obtain ⟨x1, s1, s2, s3, s4⟩ := see_s ht hJ.2.1
    have hpb : p ≤ nx sP T L p := nx_ge
    have hbL := a3.1
    have hL := ht.1
    generalize hb : nx sP T L p = b at a1 a3 s1 s3 s4 hpb hbL
    have g6 : gi h1 4 6 = 0 := by rw [a2 4 6 (by omega)]; exact hJ.2.2.1
    have g12 : gi x1 0 12 = 0 := by rw [s2 0 12 (by omega)]; exact hJ.2.2.2
    have hrow : x1.1 3 = x.1 3 := s2.z.row
    have hv := hR.v
    have e16 : ¬ gi f 24 3 = (6 : Int32) := by
      rw [hR.r0.n16 hv]
      exact fun z => absurd ((I_inj (b := 6) (by omega) (by omega)).mp z) (by omega)
    have e16x : gi x1 3 16 = I (nT (x.1 3)) := by
      rw [s2 3 16 (by omega)]
      exact hv.cnt.2.1
    have e16y : ¬ gi x1 3 16 = (6 : Int32) := by
      rw [e16x]
      exact fun z => absurd ((I_inj (b := 6) (by omega) (by omega)).mp z) (by omega)
    have ec : D_X1_readNozzles_26 (D_X1_readNozzles_2 (n + 1)) (I c) h f = D_X1_readNozzles_55 (D_X1_readNozzles_2 (n + 1)) (I c) h1 f := by
      unfold D_X1_readNozzles_26
      rw [a1, b2_s, if_neg e16, ite_self]
    rw [ec, nz55, D_X10_readNozzles_2, if10, s1, b2_s, if_neg e16y]
    unfold D_X10_readNozzles_40
    rw [e16x, ix44]
    rcases into_s ht f (h := h1) (x := x1) (p := b) ⟨a3, s3, g6, g12⟩ (a := 1) (B := 5) (by omega) (by omega) (lo := 1) (hi := 4) rfl (by decide) (pl := 44 + nT (x.1 3)) (by omega) with ⟨v, h', x', c1, c2, c3, c4, c5⟩ | ⟨v, p', h', x', a0, b1, b2, b3, c1, c2, c3, ar, c4, c5⟩
    · rw [c1, b2_s, if_neg c3.2.1, nz_end c3.2.1, c2, b2_s, if00]
      exact Or.inl ⟨h', f, x', rfl, rfl, c3, a2.h.tr c4, s2.z.x.tr c5⟩
    · obtain ⟨f2, t1, t2, t3⟩ := type_R hR hz (by omega) (I v)
      rw [c1, b2_s, if_pos c3.2.2.1, t1, b1_s, c2, b2_s, if10, bnd_s]
      have ev : gi x' 3 16 = I (nT (x.1 3)) := by
        show x'.1 3 16 = _
        rw [ar, upd_ne (by omega), hrow]
        exact hv.cnt.2.1
      rw [ev, ixs1]
      have j2 : JS L T h' f2 (si x' 3 16 (I (nT (x.1 3) + 1))) p' := ⟨c3.s3 16 _, by rw [row_s3, ar, hrow]; exact t2, by rw [row_s3, ar, hrow]; exact t3⟩
      have eT : nT ((si x' 3 16 (I (nT (x.1 3) + 1))).1 3) = nT (x.1 3) + 1 := by
        rw [row_s3]
        exact tncI (upd_eq _ _ _) (by omega)
      have fx : FX x (si x' 3 16 (I (nT (x.1 3) + 1))) := (s2.z.x.tr c5).tr (FX.s3 x' 16 _)
      have fh : FH h h' := a2.h.tr c4
      generalize si x' 3 16 (I (nT (x.1 3) + 1)) = y at j2 eT fx
      obtain ⟨h3, k1, k2, k3⟩ := atd_s ht f2 j2.1.1
      obtain ⟨x3, l1, l2, l3, l4⟩ := see_s ht j2.1.2.1
      have hpb2 : p' ≤ nx sP T L p' := nx_ge
      have hbL2 := k3.1
      rw [D_X1_readNozzles_2, if_neg (show ¬ (6 : Int32) < I (c + 1) from fun z => absurd ((I_lt (a := 6) (by omega) (by omega)).mp z) (by omega)), if_pos c3.2.2.1, if_neg (show ¬ I (c + 1) = 0 from fun z => absurd ((I_ne0 (by omega)).mp z) (by omega)), k1, b2_s, l1, b2_s, l3.2.2.1, isd_x ht l3.2.1 l3.2.2.2 (by omega), b1_s]
      generalize hb2 : nx sP T L p' = b2 at k1 k3 l1 l3 l4 hpb2 hbL2 ⊢
      have j3 : JS L T h3 f2 x3 b2 := ⟨⟨k3, l3, by rw [k2 4 6 (by omega)]; exact c3.2.2.1, by rw [l2 0 12 (by omega)]; exact j2.1.2.2.2⟩, by rw [l2.z.row]; exact j2.2.1, by rw [l2.z.row]; exact j2.2.2⟩
      by_cases g : b2 < L ∧ dP (T b2) = true
      · rw [if_pos g, if10]
        exact (ih (c + 1) n (n' + 1) h3 f2 x3 b2 (by rw [l2.z.row, eT]; omega) (by rw [l2.z.row, eT]; omega) (by omega) (by omega) j3).pre (by omega) (fh.tr k2.h) (fx.tr l2.z.x)
      · rw [if_neg g, if00, D_X10_readNozzles_2, if00]
        exact Or.inr ⟨h3, f2, x3, b2, by omega, rfl, rfl, j3, fh.tr k2.h, fx.tr l2.z.x⟩
theorem s_noz {L : Nat} {T : Nat → Nat} (ht : Tok L T) {h f x : MM} {p : Nat} (hJ : JS L T h f x p) : Out L T p h x (D_X1_readNozzles h f) (D_X10_readNozzles x) := by
  have h6 := hJ.2.1.r0.vc.2.1
  have ec : D_X1_readNozzles h f = D_X1_readNozzles_26 (D_X1_readNozzles_2 4999) (I 0) h f := by
    show D_X1_readNozzles_2 (4999 + 1) (0 : Int32) h f = _
    rw [D_X1_readNozzles_2, if_neg (by decide), if_pos hJ.1.2.2.1, if00]
    rfl
  rw [ec]
  exact nz_l ht (6 - nT (x.1 3)) 0 4999 FU h f x p (by omega) (by omega) (by omega) (by show _ < 5000; omega) hJ
/-- room for one more, or an error -/
theorem room_y {x : MM} {b c M n : Nat} (hc : c < 640) (en : gi x 3 c = I n) (hn : n < M) (hM : M < 1000) : D_X10_isRoom (I b) (I c) (I M) x = some (1, si x 0 10 (I b)) := by
  unfold D_X10_isRoom
  rw [bnd_s, gdI (by omega) (by omega), I_tnc (by omega), gi_si_ne (by omega), en, if_pos ((I_lt (by omega) (by omega)).mpr hn)]
theorem room_n {L : Nat} {T : Nat → Nat} {h f x : MM} {p : Nat} (hJ : Jd L T h x p) {b c M : Nat} (hc : c < 640) (en : gi x 3 c = I M) (hM : M < 1000) : ∃ h' x' : MM, D_X1_fail (3 : Int32) (I b) h f = some h' ∧ D_X10_isRoom (I b) (I c) (I M) x = some (0, x') ∧ Er h' x' ∧ FH h h' ∧ FX x x' := by
  obtain ⟨h5, x5, y1, y2, y3, y4, y5⟩ := fail_s f (h := h) (x := si x 0 10 (I b)) (e := 3) (p := b) (by omega) hJ.2.2.1 (by rw [gi_si_ne (by omega)]; exact hJ.2.2.2) (gi_si_eq _ _ _ _)
  have y2 : D_X10_fails (3 : Int32) (si x 0 10 (I b)) = some (0, x5) := y2
  refine ⟨h5, x5, y1, ?_, y3, y4, (FX.s0 x _ (by omega)).tr y5.x⟩
  unfold D_X10_isRoom
  rw [bnd_s, gdI (by omega) (by omega), I_tnc (by omega), gi_si_ne (by omega), en, if_neg (fun z => absurd ((I_lt (by omega) (by omega)).mp z) (Nat.lt_irrefl M)), y2, b2_s, if00]
theorem s_kind {L : Nat} {T : Nat → Nat} (ht : Tok L T) {h f x : MM} {p b : Nat} (hJ : JS L T h f x p) (h4 : gi h 4 4 = I b) : Out L T p h x (D_X1_readKind h f) (D_X10_readKind (I b) x) := by
  obtain ⟨hJd, hR, hz⟩ := hJ
  obtain ⟨v1, v2, v3, v4, v5, v6, v7, v8⟩ := hR.r0.vc
  have hv := hR.v
  have e17 : gi x 3 17 = I (nK (x.1 3)) := hv.cnt.2.2.1
  have e16 : gi x 3 16 = I (nT (x.1 3)) := hv.cnt.2.1
  unfold D_X1_readKind D_X10_readKind
  rw [hR.r0.n17 hv, hR.r0.n16 hv, h4, show (17 : Int32) = I 17 from rfl, show (8 : Int32) = I 8 from rfl]
  by_cases c : nK (x.1 3) = 8
  · obtain ⟨h5, x5, y1, y2, y3, y4, y5⟩ := room_n hJd (f := f) (b := b) (c := 17) (M := 8) (by omega) (by rw [e17, c]) (by omega)
    rw [if_pos (by rw [c]), y1, b1_s, y2, b2_s, if00]
    exact Or.inl ⟨h5, f, x5, rfl, rfl, y3, y4, y5⟩
  · rw [if_neg (fun z => c ((I_inj (by omega) (by omega)).mp z)), room_y (c := 17) (M := 8) (by omega) e17 (by omega) (by omega), b2_s, if10, gi_si_ne (by omega), gi_si_ne (by omega), e17, e16, ix50]
    rcases into_s ht f (hJd.s0 (I b)) (a := 0) (B := nT (x.1 3)) (by omega) (by omega) (lo := 0) (hi := I (nT (x.1 3)) - 1) rfl (I_pred (by omega)) (pl := 50 + nK (x.1 3)) (by omega) with ⟨v, h', x', c1, c2, c3, c4, c5⟩ | ⟨v, p', h', x', a0, b1, b2, b3, c1, c2, c3, ar, c4, c5⟩
    · rw [c1, b2_s, if_neg c3.2.1, c2, b2_s, if00]
      exact Or.inl ⟨h', f, x', rfl, rfl, c3, c4, (FX.s0 x _ (by omega)).tr c5⟩
    · rw [row_s0] at ar
      obtain ⟨f2, t1, t2, t3⟩ := kind_R hR hz (by omega) b2
      have ev : gi x' 3 17 = I (nK (x.1 3)) := by
        show x'.1 3 17 = _
        rw [ar, upd_ne (by omega)]
        exact e17
      rw [c1, b2_s, if_pos c3.2.2.1, t1, b1_s, c2, b2_s, if10, bnd_s, ev, ixs1]
      exact Or.inr ⟨h', f2, _, p', b3, rfl, rfl, ⟨c3.s3 17 _, by rw [row_s3, ar]; exact t2, by rw [row_s3, ar]; exact t3⟩, c4, ((FX.s0 x _ (by omega)).tr c5).tr (FX.s3 x' 17 _)⟩
theorem fd79_e {x1 x2 x3 : Int32} {h f : MM} (e : gi h 4 6 ≠ 0) : D_X1_readFeeder_79 x1 x2 x3 h f = some (h, f) := by
  unfold D_X1_readFeeder_79
  rw [if_neg e, if_neg e]
theorem s_feed {L : Nat} {T : Nat → Nat} (ht : Tok L T) {h f x : MM} {p b : Nat} (hJ : JS L T h f x p) (h4 : gi h 4 4 = I b) : Out L T p h x (D_X1_readFeeder h f) (D_X10_readFeeder (I b) x) := by
  obtain ⟨hJd, hR, hz⟩ := hJ
  obtain ⟨v1, v2, v3, v4, v5, v6, v7, v8⟩ := hR.r0.vc
  have hv := hR.v
  have e18 : gi x 3 18 = I (nF (x.1 3)) := hv.cnt.2.2.2.1
  have e17 : gi x 3 17 = I (nK (x.1 3)) := hv.cnt.2.2.1
  generalize hF : nF (x.1 3) = F at *
  have eF0 : ((130 : Int32) + ((11 : Int32) * I F)) = I (130 + 11 * F) := by
    rw [show (130 : Int32) = I 130 from rfl, show (11 : Int32) = I 11 from rfl, I_mul, I_add]
  unfold D_X1_readFeeder D_X10_readFeeder
  rw [show gi f 24 6 = I F by rw [hR.r0.n18 hv, hF], hR.r0.n17 hv, h4, e18, eF0, bnd_s, show (18 : Int32) = I 18 from rfl, show (10 : Int32) = I 10 from rfl]
  simp only [show ∀ k : Nat, I k + (0 : Int32) = I k from fun k => Int32.add_zero _, ixs1, ixs2, ixs3, Int32.add_zero]
  by_cases c : F = 10
  · obtain ⟨h5, x5, y1, y2, y3, y4, y5⟩ := room_n hJd (f := f) (b := b) (c := 18) (M := 10) (by omega) (by rw [e18, c]) (by omega)
    rw [if_pos (by rw [c]), y1, b1_s, y2, b2_s, if00]
    exact Or.inl ⟨h5, f, x5, rfl, rfl, y3, y4, y5⟩
  · rw [if_neg (fun z => c ((I_inj (by omega) (by omega)).mp z)), room_y (c := 18) (M := 10) (by omega) e18 (by omega) (by omega), b2_s, if10, gi_si_ne (by omega), e17]
    have fx0 : FX x (si x 0 10 (I b)) := FX.s0 x _ (by omega)
    rcases into_s ht f (hJd.s0 (I b)) (a := 0) (B := nK (x.1 3)) (by omega) (by omega) (lo := 0) (hi := I (nK (x.1 3)) - 1) rfl (I_pred (by omega)) (pl := 130 + 11 * F) (by omega) with ⟨v, h', x', c1, c2, c3, c4, c5⟩ | ⟨K, p1, h1, x1, -, b1, b2, b3, c1, c2, c3, ar, c4, c5⟩
    · rw [c1, b2_s, if_neg c3.2.1, if_neg c3.2.1, fd79_e c3.2.1, c2, b2_s, if00]
      exact Or.inl ⟨h', f, x', rfl, rfl, c3, c4, fx0.tr c5⟩
    · rw [row_s0] at ar
      rw [c1, b2_s, if_pos c3.2.2.1, c2, b2_s, if10]
      rcases into_s ht f c3 (a := 0) (B := 1000) (by omega) (by omega) (lo := 0) (hi := 999) rfl (by decide) (pl := 130 + 11 * F + 1) (by omega) with ⟨v, h', x', d1, d2, d3, d4, d5⟩ | ⟨X, p2, h2, x2, -, g1, g2, g3, d1, d2, d3, ar2, d4, d5⟩
      · rw [d1, b2_s, if_neg d3.2.1, fd79_e d3.2.1, d2, b2_s, if00]
        exact Or.inl ⟨h', f, x', rfl, rfl, d3, c4.tr d4, (fx0.tr c5).tr d5⟩
      · rw [d1, b2_s, if_pos d3.2.2.1, d2, b2_s, if10]
        rcases into_s ht f d3 (a := 0) (B := 501) (by omega) (by omega) (lo := 0) (hi := 500) rfl (by decide) (pl := 130 + 11 * F + 2) (by omega) with ⟨v, h', x', k1, k2, k3, k4, k5⟩ | ⟨P, p3, h3, x3, -, l1, l2, l3, k1, k2, k3, ar3, k4, k5⟩
        · rw [k1, b2_s, fd79_e k3.2.1, k2, b2_s, if00]
          exact Or.inl ⟨h', f, x', rfl, rfl, k3, (c4.tr d4).tr k4, ((fx0.tr c5).tr d5).tr k5⟩
        · rw [k1, b2_s, k2, b2_s, if10]
          unfold D_X1_readFeeder_79
          rw [if_pos k3.2.2.1]
          rcases into_s ht f k3 (a := 0) (B := 101) (by omega) (by omega) (lo := 0) (hi := 100) rfl (by decide) (pl := 130 + 11 * F + 3) (by omega) with ⟨v, h', x', m1, m2, m3, m4, m5⟩ | ⟨M, p4, h4', x4, -, n1, n2, n3, m1, m2, m3, ar4, m4, m5⟩
          · rw [m1, b2_s, if_neg m3.2.1, m2, b2_s, if00]
            exact Or.inl ⟨h', f, x', rfl, rfl, m3, ((c4.tr d4).tr k4).tr m4, (((fx0.tr c5).tr d5).tr k5).tr m5⟩
          · subst hF
            obtain ⟨f2, t1, t2, t3⟩ := feed_R hR hz (by omega) b2 (X := X) (P := P) (by omega) (by omega) (I M)
            have arr : x4.1 3 = upd (upd (upd (upd (x.1 3) (130 + 11 * nF (x.1 3)) (I K)) (130 + 11 * nF (x.1 3) + 1) (I X)) (130 + 11 * nF (x.1 3) + 2) (I P)) (130 + 11 * nF (x.1 3) + 3) (I M) := by rw [ar4, ar3, ar2, ar]
            have r0 : gi x4 3 (130 + 11 * nF (x.1 3)) = I K := by
              show x4.1 3 _ = _
              rw [arr, upd_ne (by omega), upd_ne (by omega), upd_ne (by omega), upd_eq]
            have r2 : gi x4 3 (130 + 11 * nF (x.1 3) + 2) = I P := by
              show x4.1 3 _ = _
              rw [arr, upd_ne (by omega), upd_eq]
            have rK : gi x4 3 (90 + 5 * K) = x.1 3 (90 + 5 * K) := by
              show x4.1 3 _ = _
              rw [arr, upd_ne (by omega), upd_ne (by omega), upd_ne (by omega), upd_ne (by omega)]
            have r18 : gi x4 3 18 = I (nF (x.1 3)) := by
              show x4.1 3 _ = _
              rw [arr, upd_ne (by omega), upd_ne (by omega), upd_ne (by omega), upd_ne (by omega)]
              exact e18
            have eB : ((90 : Int32) + ((5 : Int32) * I K)) = I (90 + 5 * K) := by
              rw [show (90 : Int32) = I 90 from rfl, show (5 : Int32) = I 5 from rfl, I_mul, I_add]
            rw [m1, b2_s, if_pos m3.2.2.1, t1, b1_s, m2, b2_s, if10]
            simp only [gdJ (show 130 + 11 * nF (x.1 3) < 2147483648 by omega) (show 130 + 11 * nF (x.1 3) < 640 by omega), gdJ (show 130 + 11 * nF (x.1 3) + 2 < 2147483648 by omega) (show 130 + 11 * nF (x.1 3) + 2 < 640 by omega), gdJ (show 90 + 5 * K < 2147483648 by omega) (show 90 + 5 * K < 640 by omega), gdI (show 130 + 11 * nF (x.1 3) < 2147483648 by omega) (show 130 + 11 * nF (x.1 3) < 640 by omega), gdI (show 130 + 11 * nF (x.1 3) + 2 < 2147483648 by omega) (show 130 + 11 * nF (x.1 3) + 2 < 640 by omega), I_tnc (show 130 + 11 * nF (x.1 3) < 2147483648 by omega), I_tnc (show 130 + 11 * nF (x.1 3) + 2 < 2147483648 by omega), r0, r2, bnd_s, eB, gdI (show 90 + 5 * K < 2147483648 by omega) (show 90 + 5 * K < 640 by omega), I_tnc (show 90 + 5 * K < 2147483648 by omega), rK]
            rw [gi_si_ne (by omega), r18, ixs1]
            have rw1 : (si (si x4 3 (90 + 5 * K) (x.1 3 (90 + 5 * K) + I P)) 3 18 (I (nF (x.1 3) + 1))).1 3 = fdW (x.1 3) (nF (x.1 3)) K (I X) (I P) (I M) := by
              rw [row_s3, row_s3, arr]
              unfold fdW
              rw [show 131 + 11 * nF (x.1 3) = 130 + 11 * nF (x.1 3) + 1 by omega, show 132 + 11 * nF (x.1 3) = 130 + 11 * nF (x.1 3) + 2 by omega, show 133 + 11 * nF (x.1 3) = 130 + 11 * nF (x.1 3) + 3 by omega]
            exact Or.inr ⟨h4', f2, _, p4, by omega, rfl, rfl, ⟨(m3.s3 _ _).s3 18 _, by rw [rw1]; exact t2, by rw [rw1]; exact t3⟩, ((c4.tr d4).tr k4).tr m4, (((((fx0.tr c5).tr d5).tr k5).tr m5).tr (FX.s3 x4 _ _)).tr (FX.s3 _ 18 _)⟩
theorem st62_e {x1 x2 : Int32} {h f : MM} (e : gi h 4 6 ≠ 0) : D_X1_readSpot_62 x1 x2 h f = some (h, f) := by
  unfold D_X1_readSpot_62
  rw [if_neg e, if_neg e]
theorem s_spot {L : Nat} {T : Nat → Nat} (ht : Tok L T) {h f x : MM} {p b : Nat} (hJ : JS L T h f x p) (h4 : gi h 4 4 = I b) : Out L T p h x (D_X1_readSpot h f) (D_X10_readSpot (I b) x) := by
  obtain ⟨hJd, hR, hz⟩ := hJ
  obtain ⟨v1, v2, v3, v4, v5, v6, v7, v8⟩ := hR.r0.vc
  have hv := hR.v
  have e19 : gi x 3 19 = I (nP (x.1 3)) := hv.cnt.2.2.2.2.1
  have e17 : gi x 3 17 = I (nK (x.1 3)) := hv.cnt.2.2.1
  generalize hF : nP (x.1 3) = F at *
  have eF0 : ((240 : Int32) + ((6 : Int32) * I F)) = I (240 + 6 * F) := by
    rw [show (240 : Int32) = I 240 from rfl, show (6 : Int32) = I 6 from rfl, I_mul, I_add]
  unfold D_X1_readSpot D_X10_readSpot
  rw [show gi f 36 0 = I F by rw [hR.r0.n19 hv, hF], hR.r0.n17 hv, h4, e19, eF0, bnd_s, show (19 : Int32) = I 19 from rfl, show (40 : Int32) = I 40 from rfl]
  simp only [ixs1, ixs2]
  by_cases c : F = 40
  · obtain ⟨h5, x5, y1, y2, y3, y4, y5⟩ := room_n hJd (f := f) (b := b) (c := 19) (M := 40) (by omega) (by rw [e19, c]) (by omega)
    rw [if_pos (by rw [c]), y1, b1_s, y2, b2_s, if00]
    exact Or.inl ⟨h5, f, x5, rfl, rfl, y3, y4, y5⟩
  · rw [if_neg (fun z => c ((I_inj (by omega) (by omega)).mp z)), room_y (c := 19) (M := 40) (by omega) e19 (by omega) (by omega), b2_s, if10, gi_si_ne (by omega), e17]
    have fx0 : FX x (si x 0 10 (I b)) := FX.s0 x _ (by omega)
    rcases into_s ht f (hJd.s0 (I b)) (a := 0) (B := nK (x.1 3)) (by omega) (by omega) (lo := 0) (hi := I (nK (x.1 3)) - 1) rfl (I_pred (by omega)) (pl := 240 + 6 * F) (by omega) with ⟨v, h', x', c1, c2, c3, c4, c5⟩ | ⟨K, p1, h1, x1, -, b1, b2, b3, c1, c2, c3, ar, c4, c5⟩
    · rw [c1, b2_s, if_neg c3.2.1, st62_e c3.2.1, c2, b2_s, if00]
      exact Or.inl ⟨h', f, x', rfl, rfl, c3, c4, fx0.tr c5⟩
    · rw [row_s0] at ar
      rw [c1, b2_s, if_pos c3.2.2.1, c2, b2_s, if10]
      rcases into_s ht f c3 (a := 0) (B := 1000) (by omega) (by omega) (lo := 0) (hi := 999) rfl (by decide) (pl := 240 + 6 * F + 1) (by omega) with ⟨v, h', x', d1, d2, d3, d4, d5⟩ | ⟨X, p2, h2, x2, -, g1, g2, g3, d1, d2, d3, ar2, d4, d5⟩
      · rw [d1, b2_s, st62_e d3.2.1, d2, b2_s, if00]
        exact Or.inl ⟨h', f, x', rfl, rfl, d3, c4.tr d4, (fx0.tr c5).tr d5⟩
      · rw [d1, b2_s, d2, b2_s, if10]
        unfold D_X1_readSpot_62
        rw [if_pos d3.2.2.1]
        rcases into_s ht f d3 (a := 0) (B := 1000) (by omega) (by omega) (lo := 0) (hi := 999) rfl (by decide) (pl := 240 + 6 * F + 2) (by omega) with ⟨v, h', x', k1, k2, k3, k4, k5⟩ | ⟨Y, p3, h3, x3, -, l1, l2, l3, k1, k2, k3, ar3, k4, k5⟩
        · rw [k1, b2_s, if_neg k3.2.1, k2, b2_s, if00]
          exact Or.inl ⟨h', f, x', rfl, rfl, k3, (c4.tr d4).tr k4, ((fx0.tr c5).tr d5).tr k5⟩
        · subst hF
          obtain ⟨f2, t1, t2, t3⟩ := spot_R hR hz (by omega) b2 (X := X) (Y := Y) (by omega) (by omega)
          have arr : x3.1 3 = upd (upd (upd (x.1 3) (240 + 6 * nP (x.1 3)) (I K)) (240 + 6 * nP (x.1 3) + 1) (I X)) (240 + 6 * nP (x.1 3) + 2) (I Y) := by rw [ar3, ar2, ar]
          have r19 : gi x3 3 19 = I (nP (x.1 3)) := by
            show x3.1 3 _ = _
            rw [arr, upd_ne (by omega), upd_ne (by omega), upd_ne (by omega)]
            exact e19
          rw [k1, b2_s, if_pos k3.2.2.1, t1, b1_s, k2, b2_s, if10, bnd_s, r19, ixs1]
          have rw1 : (si x3 3 19 (I (nP (x.1 3) + 1))).1 3 = stW (x.1 3) (nP (x.1 3)) K (I X) (I Y) := by
            rw [row_s3, arr]
            unfold stW
            rw [show 241 + 6 * nP (x.1 3) = 240 + 6 * nP (x.1 3) + 1 by omega, show 242 + 6 * nP (x.1 3) = 240 + 6 * nP (x.1 3) + 2 by omega]
          exact Or.inr ⟨h3, f2, _, p3, by omega, rfl, rfl, ⟨k3.s3 19 _, by rw [rw1]; exact t2, by rw [rw1]; exact t3⟩, (c4.tr d4).tr k4, (((fx0.tr c5).tr d5).tr k5).tr (FX.s3 x3 19 _)⟩
-- pairs
theorem pi3_l (x : MM) (a b : Int32) : ∀ (n : Nat) (i : Int32), D_X10_pairIn_2 x n 3 a b i = D_X10_pairIn_2 (pw x (x.1 3)) n 1 a b i := by
  intro n
  induction n with
  | zero => intro i; rfl
  | succ n ih =>
    intro i
    have e : ∀ k : Nat, gi (pw x (x.1 3)) 1 k = gi x 3 k := fun k => giP x (x.1 3) k
    simp only [D_X10_pairIn_2, e, ih]
theorem pi3 (x : MM) (a b : Int32) : D_X10_pairIn 3 a b x = D_X10_pairIn 1 a b (pw x (x.1 3)) := pi3_l x a b FU 0
theorem bf61_e {x1 x2 : Int32} {h f : MM} (e : gi h 4 6 ≠ 0) : D_X1_readBefore_61 x1 x2 h f = some (h, f) := by
  unfold D_X1_readBefore_61
  rw [if_neg e]
theorem add_x3 {x : MM} {n : Nat} (a b : Int32) (e20 : gi x 3 20 = I n) (h20 : n < 20) : D_X10_addsPair 3 a b x = some (si (si (si x 3 (600 + 2 * n) a) 3 (600 + 2 * n + 1) b) 3 20 (I (n + 1))) := by
  unfold D_X10_addsPair
  rw [e20, ix600, gdI (by omega) (by omega), bnd_s, I_tnc (by omega), gi_si_ne (by omega), e20, ix600, ixs1, gdI (by omega) (by omega), bnd_s, I_tnc (by omega), gi_si_ne (by omega), gi_si_ne (by omega), e20, ixs1, bnd_s]
theorem s_bef {L : Nat} {T : Nat → Nat} (ht : Tok L T) {h f x : MM} {p b : Nat} (hJ : JS L T h f x p) (h4 : gi h 4 4 = I b) : Out L T p h x (D_X1_readBefore h f) (D_X10_readBefore (I b) x) := by
  obtain ⟨hJd, hR, hz⟩ := hJ
  obtain ⟨v1, v2, v3, v4, v5, v6, v7, v8⟩ := hR.r0.vc
  have hv := hR.v
  have e20 : gi x 3 20 = I (nQ (x.1 3)) := hv.cnt.2.2.2.2.2.1
  have e19 : gi x 3 19 = I (nP (x.1 3)) := hv.cnt.2.2.2.2.1
  unfold D_X1_readBefore D_X10_readBefore
  rw [hR.r0.n20 hv, hR.r0.n19 hv, h4, show (20 : Int32) = I 20 from rfl]
  by_cases c : nQ (x.1 3) = 20
  · obtain ⟨h5, x5, y1, y2, y3, y4, y5⟩ := room_n hJd (f := f) (b := b) (c := 20) (M := 20) (by omega) (by rw [e20, c]) (by omega)
    rw [if_pos (by rw [c]), y1, b1_s, y2, b2_s, if00]
    exact Or.inl ⟨h5, f, x5, rfl, rfl, y3, y4, y5⟩
  · rw [if_neg (fun z => c ((I_inj (by omega) (by omega)).mp z)), room_y (c := 20) (M := 20) (by omega) e20 (by omega) (by omega), b2_s, if10, gi_si_ne (by omega), e19]
    have fx0 : FX x (si x 0 10 (I b)) := FX.s0 x _ (by omega)
    rcases num_s ht f (hJd.s0 (I b)) (a := 0) (B := nP (x.1 3)) (by omega) (by omega) (lo := 0) (hi := I (nP (x.1 3)) - 1) rfl (I_pred (by omega)) with ⟨v, h', x', c1, c2, c3, c4, c5⟩ | ⟨A, u1, p1, h1, x1, -, b1, b2, b3, c1, c2, c14, c45, c10, c3, c4, c5⟩
    · rw [c1, b2_s, if_neg c3.2.1, bf61_e c3.2.1, c2, b2_s, if00]
      exact Or.inl ⟨h', f, x', rfl, rfl, c3, c4, fx0.tr c5.x⟩
    · have rr1 : x1.1 3 = x.1 3 := by rw [c5.row, row_s0]
      have e19' : gi x1 3 19 = I (nP (x.1 3)) := by
        show x1.1 3 19 = _
        rw [rr1]
        exact e19
      rw [c1, b2_s, if_pos c3.2.2.1, c2, b2_s, if10, bnd_s, c14, e19']
      rcases num_s ht f c3 (a := 0) (B := nP (x.1 3)) (by omega) (by omega) (lo := 0) (hi := I (nP (x.1 3)) - 1) rfl (I_pred (by omega)) with ⟨v, h', x', d1, d2, d3, d4, d5⟩ | ⟨B, u2, p2, h2, x2, -, g1, g2, g3, d1, d2, d14, d45, d10, d3, d4, d5⟩
      · rw [d1, b2_s, bf61_e d3.2.1, d2, b2_s, if00]
        exact Or.inl ⟨h', f, x', rfl, rfl, d3, c4.tr d4, (fx0.tr c5.x).tr d5.x⟩
      · have rr2 : x2.1 3 = x.1 3 := by rw [d5.row, rr1]
        have fx2 : FX x x2 := (fx0.tr c5.x).tr d5.x
        have fh2 : FH h h2 := c4.tr d4
        rw [d1, b2_s, d2, b2_s, if10, d14]
        unfold D_X1_readBefore_61
        rw [if_pos d3.2.2.1, d45]
        obtain ⟨ρ, hr⟩ := hv.rk hR.r0
        obtain ⟨y1, y2⟩ := circ_m hR.r0 hv (a := A) (b := B) (by omega) (by omega)
        obtain ⟨z1, z2⟩ := leads_x x2 (q0 := 3) (w := x.1 3) (fun k _ => by rw [← rr2]; rfl) hr hv.cnt.2.2.2.2.2.1 v6 (b := B) (a := A) (by omega) (by omega)
        by_cases hc : ∃ k : Nat, Wk (x.1 3) k B A
        · rw [y1 hc, b1_s, if10, z1 hc, b1_s, if10]
          obtain ⟨h5, x5, w1, w2, w3, w4, w5⟩ := fail_s f (e := 4) (by omega) d3.2.2.1 d3.2.2.2 d10
          have w1 : D_X1_fail (4 : Int32) (I u2) h2 f = some h5 := w1
          have w2 : D_X10_fails (4 : Int32) x2 = some (0, x5) := w2
          rw [w1, b1_s, f_bool _ _ _ w2 (Or.inl rfl)]
          exact Or.inl ⟨h5, f, x5, rfl, rfl, w3, fh2.tr w4, fx2.tr w5.x⟩
        · rw [y2 hc, b1_s, if00, z2 hc, b1_s, if00, pi3, rr2]
          rcases pi_s hR.r0 x2 hv (I A) (I B) with ⟨k, l, k1, l1, q1, -, -, q2, -, -⟩ | ⟨q1, q2, q3, q4⟩
          · rw [q1, b1_s, if_neg (I_ne_neg (by omega)), q2, b1_s, if_neg (I_ne_neg (by omega))]
            exact Or.inr ⟨h2, f, x2, p2, by omega, rfl, rfl, ⟨d3, by rw [rr2]; exact hR, by rw [rr2]; exact hz⟩, fh2, fx2⟩
          · obtain ⟨f2, t1, t2, t3, t4⟩ := add_s hR x2 b2 g2 (by omega) q3 hc
            have e20' : gi x2 3 20 = I (nQ (x.1 3)) := by
              show x2.1 3 20 = _
              rw [rr2]
              exact e20
            rw [q1, b1_s, if_pos rfl, t1, b1_s, q2, b1_s, if_pos rfl, add_x3 _ _ e20' (by omega), b1_s]
            have rw1 : (si (si (si x2 3 (600 + 2 * nQ (x.1 3)) (I A)) 3 (600 + 2 * nQ (x.1 3) + 1) (I B)) 3 20 (I (nQ (x.1 3) + 1))).1 3 = upd (upd (upd (x.1 3) (600 + 2 * nQ (x.1 3)) (I A)) (600 + 2 * nQ (x.1 3) + 1) (I B)) 20 (I (nQ (x.1 3) + 1)) := by rw [row_s3, row_s3, row_s3, rr2]
            refine Or.inr ⟨h2, f2, _, p2, by omega, rfl, rfl, ⟨((d3.s3 _ _).s3 _ _).s3 20 _, by rw [rw1]; exact t4, ?_⟩, fh2, ((fx2.tr (FX.s3 x2 _ _)).tr (FX.s3 _ _ _)).tr (FX.s3 _ 20 _)⟩
            rw [rw1]
            obtain ⟨n1, n2, n3⟩ := hz
            have o : ∀ i : Nat, i < 600 → i ≠ 20 → upd (upd (upd (x.1 3) (600 + 2 * nQ (x.1 3)) (I A)) (600 + 2 * nQ (x.1 3) + 1) (I B)) 20 (I (nQ (x.1 3) + 1)) i = x.1 3 i := fun i hi h => by rw [upd_ne h, upd_ne (by omega), upd_ne (by omega)]
            generalize upd (upd (upd (x.1 3) (600 + 2 * nQ (x.1 3)) (I A)) (600 + 2 * nQ (x.1 3) + 1) (I B)) 20 (I (nQ (x.1 3) + 1)) = w' at o
            have eF := nF_e (o 18 (by omega) (by omega))
            have eP := nP_e (o 19 (by omega) (by omega))
            refine ⟨by rw [o 23 (by omega) (by omega)]; exact n1, fun i j h1 h2 h3 h4 => by rw [o _ (by omega) (by omega)]; exact n2 i j (by rw [← eF]; exact h1) h2 h3 h4, fun k h1 h2 => ?_⟩
            rw [o _ (by omega) (by omega), o _ (by omega) (by omega), o _ (by omega) (by omega)]
            exact n3 k (by rw [← eP]; exact h1) h2
