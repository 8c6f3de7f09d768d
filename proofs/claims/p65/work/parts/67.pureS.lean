/-! PURE: copies -/
/-- f' lies between f and m -/
def Pr (m f f' : MM) : Prop := (∀ q k : Nat, gi f' q k = gi m q k ∨ gi f' q k = gi f q k) ∧ (∀ q k : Nat, gl f' q k = gl m q k ∨ gl f' q k = gl f q k)
theorem Pr.rf (m f : MM) : Pr m f f := ⟨fun q k => Or.inr rfl, fun q k => Or.inr rfl⟩
theorem Pr.tr {m f f1 f2 : MM} (h : Pr m f f1) (h' : Pr m f1 f2) : Pr m f f2 := by
  refine ⟨fun q k => ?_, fun q k => ?_⟩
  · rcases h'.1 q k with e | e
    · exact Or.inl e
    · rw [e]; exact h.1 q k
  · rcases h'.2 q k with e | e
    · exact Or.inl e
    · rw [e]; exact h.2 q k
theorem Pr.k1 {m f f' : MM} (h : Pr m f f') {q k : Nat} (e : gi f q k = gi m q k) : gi f' q k = gi m q k := by
  rcases h.1 q k with z | z
  · exact z
  · rw [z, e]
theorem Pr.k2 {m f f' : MM} (h : Pr m f f') {q k : Nat} (e : gl f q k = gl m q k) : gl f' q k = gl m q k := by
  rcases h.2 q k with z | z
  · exact z
  · rw [z, e]
theorem Pr.i {m f f' : MM} (h : Pr m f f') {q k : Nat} {v : Int32} (hv : v = gi m q k) : Pr m f (si f' q k v) := by
  subst hv
  refine ⟨fun q' k' => ?_, h.2⟩
  rw [gi_si]
  by_cases c : q' = q ∧ k' = k
  · rw [if_pos c, c.1, c.2]; exact Or.inl rfl
  · rw [if_neg c]; exact h.1 q' k'
theorem Pr.l {m f f' : MM} (h : Pr m f f') {q k : Nat} {v : Int64} (hv : v = gl m q k) : Pr m f (sl f' q k v) := by
  subst hv
  refine ⟨h.1, fun q' k' => ?_⟩
  rw [gl_sl]
  by_cases c : q' = q ∧ k' = k
  · rw [if_pos c, c.1, c.2]; exact Or.inl rfl
  · rw [if_neg c]; exact h.2 q' k'
theorem Pr.r {m f f' : MM} (h : Pr m f f') (q n : Nat) : Pr m f (sr f' q (va_cpy (m.1 q) (f'.1 q) 0 0 n)) := by
  refine ⟨fun q' k' => ?_, h.2⟩
  rw [gi_sr]
  by_cases c : q' = q
  · subst c
    rw [if_pos rfl]
    unfold va_cpy
    by_cases c2 : 0 ≤ k' ∧ k' < 0 + n
    · rw [if_pos c2, show 0 + (k' - 0) = k' by omega]; exact Or.inl rfl
    · rw [if_neg c2]; exact h.1 q' k'
  · rw [if_neg c]; exact h.1 q' k'
theorem Pr.R {m f f' : MM} (h : Pr m f f') (q n : Nat) : Pr m f (sR f' q (va_cpy (m.2 q) (f'.2 q) 0 0 n)) := by
  refine ⟨h.1, fun q' k' => ?_⟩
  rw [gl_sR]
  by_cases c : q' = q
  · subst c
    rw [if_pos rfl]
    unfold va_cpy
    by_cases c2 : 0 ≤ k' ∧ k' < 0 + n
    · rw [if_pos c2, show 0 + (k' - 0) = k' by omega]; exact Or.inl rfl
    · rw [if_neg c2]; exact h.2 q' k'
  · rw [if_neg c]; exact h.2 q' k'
theorem gi_cpy {m f : MM} {g : Nat → Int32} {q n k : Nat} (hk : k < n) : gi (sr f q (va_cpy (m.1 q) g 0 0 n)) q k = gi m q k := by
  rw [gi_sr, if_pos rfl]
  unfold va_cpy
  rw [if_pos (by omega), show 0 + (k - 0) = k by omega]
  rfl
theorem gl_cpy {m f : MM} {g : Nat → Int64} {q n k : Nat} (hk : k < n) : gl (sR f q (va_cpy (m.2 q) g 0 0 n)) q k = gl m q k := by
  rw [gl_sR, if_pos rfl]
  unfold va_cpy
  rw [if_pos (by omega), show 0 + (k - 0) = k by omega]
  rfl
theorem gi_srn {m : MM} {q : Nat} {r : Nat → Int32} {q' k : Nat} (h : q' ≠ q) : gi (sr m q r) q' k = gi m q' k := by rw [gi_sr, if_neg h]
theorem gl_sRn {m : MM} {q : Nat} {r : Nat → Int64} {q' k : Nat} (h : q' ≠ q) : gl (sR m q r) q' k = gl m q' k := by rw [gl_sR, if_neg h]
theorem cpg {p n : Nat} (hp : p ≤ n) (hn : n < 2147483648) : ¬ ((0 : Int32) < 0 ∨ (0 : Int32) < 0 ∨ I p < 0 ∨ n < 0 + (I p).toNatClampNeg ∨ n < 0 + (I p).toNatClampNeg) := by
  rw [I_tnc (by omega)]
  rintro (q | q | q | q | q)
  · exact absurd q (by decide)
  · exact absurd q (by decide)
  · exact I_nneg (by omega) q
  · omega
  · omega
theorem cp8 (m f : MM) (s : Nat) (hb : gi m s 2 = 0 ∨ gi m s 2 = 1) : ∃ f' : MM, D_X8_copyFrom s s f m = some f' ∧ Pr m f f' ∧ ∀ k : Nat, k < 8 → gi f' s k = gi m s k := by
  unfold D_X8_copyFrom
  rw [bnd_s, bnd_s, if_pos hb, bnd_s, bnd_s, bnd_s, bnd_s, bnd_s, bnd_s]
  refine ⟨_, rfl, ((((((((Pr.rf m f).i rfl).i rfl).i rfl).i rfl).i rfl).i rfl).i rfl).i rfl, fun k hk => ?_⟩
  rcases (show k = 0 ∨ k = 1 ∨ k = 2 ∨ k = 3 ∨ k = 4 ∨ k = 5 ∨ k = 6 ∨ k = 7 by omega) with e | e | e | e | e | e | e | e <;> subst e <;> simp (disch := omega) only [gi_si_ne, gi_si_is]
theorem cp2 (m f : MM) (q : Nat) (hb : gi m q 8 = 0 ∨ gi m q 8 = 1) : ∃ f' : MM, D_X2_copyFrom q q f m = some f' ∧ Pr m f f' ∧ (∀ k : Nat, k < 9 ∧ k ≠ 5 → gi f' q k = gi m q k) ∧ ∀ k : Nat, k < 3 → gi f' (q + 10) k = gi m (q + 10) k := by
  unfold D_X2_copyFrom
  rw [bnd_s, bnd_s, bnd_s, bnd_s, bnd_s, bnd_s, bnd_s, bnd_s, if_pos hb, bnd_s]
  refine ⟨_, rfl, (((((((((Pr.rf m f).i rfl).i rfl).i rfl).i rfl).i rfl).r (q + 10) 3).i rfl).i rfl).i rfl, fun k hk => ?_, fun k hk => ?_⟩
  · rcases (show k = 0 ∨ k = 1 ∨ k = 2 ∨ k = 3 ∨ k = 4 ∨ k = 6 ∨ k = 7 ∨ k = 8 by omega) with e | e | e | e | e | e | e | e <;> subst e <;> simp (disch := omega) only [gi_si_ne, gi_si_is, gi_srn]
  · rw [gi_si_ne (by omega), gi_si_ne (by omega), gi_si_ne (by omega), gi_cpy hk]
theorem cp5 (m f : MM) : ∃ f' : MM, D_X5_copyFrom f m = some f' ∧ Pr m f f' ∧ gi f' 28 0 = gi m 28 0 ∧ (∀ k : Nat, k < 8 → gi f' 29 k = gi m 29 k) ∧ ∀ c k : Nat, c < 5 → k < 8 → gi f' (30 + c) k = gi m (30 + c) k := by
  unfold D_X5_copyFrom
  refine ⟨_, rfl, (((((((Pr.rf m f).i rfl).r 29 8).r 30 8).r 31 8).r 32 8).r 33 8).r 34 8, ?_, fun k hk => ?_, fun c k hc hk => ?_⟩
  · simp (disch := omega) only [gi_srn, gi_si_is]
  · simp (disch := omega) only [gi_srn, gi_cpy]
  · rcases (show c = 0 ∨ c = 1 ∨ c = 2 ∨ c = 3 ∨ c = 4 by omega) with e | e | e | e | e <;> subst e <;> simp (disch := omega) only [gi_srn, gi_cpy, Nat.reduceAdd]
theorem cp4 (m f : MM) : ∃ f' : MM, D_X4_copyFrom f m = some f' ∧ Pr m f f' ∧ (∀ k : Nat, k = 0 ∨ k = 1 ∨ k = 7 ∨ k = 8 → gi f' 45 k = gi m 45 k) ∧ (∀ c k : Nat, c < 3 → k < 40 → gi f' (46 + c) k = gi m (46 + c) k) ∧ (∀ k : Nat, k < 7 → gi f' 49 k = gi m 49 k) ∧ ∀ k : Nat, k < 7 → gi f' 50 k = gi m 50 k := by
  unfold D_X4_copyFrom
  refine ⟨_, rfl, (((((((((Pr.rf m f).i rfl).i rfl).r 46 40).r 47 40).r 48 40).r 49 7).r 50 7).i rfl).i rfl, fun k hk => ?_, fun c k hc hk => ?_, fun k hk => ?_, fun k hk => ?_⟩
  · rcases hk with e | e | e | e <;> subst e <;> simp (disch := omega) only [gi_srn, gi_si_ne, gi_si_is]
  · rcases (show c = 0 ∨ c = 1 ∨ c = 2 by omega) with e | e | e <;> subst e <;> simp (disch := omega) only [gi_srn, gi_cpy, gi_si_ne, Nat.reduceAdd]
  · simp (disch := omega) only [gi_srn, gi_cpy, gi_si_ne]
  · simp (disch := omega) only [gi_srn, gi_cpy, gi_si_ne]
theorem cp0 (m f : MM) {p r : Nat} (hp : p ≤ 40) (hr : r ≤ 20) (e0 : gi m 36 0 = I p) (e9 : gi m 36 9 = I r) : ∃ f' : MM, D_X0_copyFrom f m = some f' ∧ Pr m f f' ∧ (∀ k : Nat, k = 0 ∨ k = 9 → gi f' 36 k = gi m 36 k) ∧ (∀ c k : Nat, c < 5 → k < p → gi f' (37 + c) k = gi m (37 + c) k) ∧ (∀ k : Nat, k < r → gi f' 43 k = gi m 43 k ∧ gi f' 44 k = gi m 44 k) ∧ gl f' 36 7 = gl m 36 7 ∧ gl f' 36 8 = gl m 36 8 ∧ ∀ k : Nat, k < 8 → gl f' 42 k = gl m 42 k := by
  unfold D_X0_copyFrom
  rw [e0, e9, bnd_s, gi_si_eq, if_neg (cpg hp (by decide)), bnd_s, I_tnc (by omega)]
  rw [show gi (sr (si f 36 0 (I p)) 37 (va_cpy (m.1 37) ((si f 36 0 (I p)).1 37) 0 0 p)) 36 0 = I p by rw [gi_sr, if_neg (by decide), gi_si_eq], if_neg (cpg hp (by decide)), bnd_s, I_tnc (by omega)]
  generalize h1 : sr (si f 36 0 (I p)) 37 (va_cpy (m.1 37) ((si f 36 0 (I p)).1 37) 0 0 p) = f1
  have t1 : Pr m f f1 := by rw [← h1]; exact ((Pr.rf m f).i e0.symm).r 37 p
  have g1 : gi f1 36 0 = I p := by rw [← h1, gi_sr, if_neg (by decide), gi_si_eq]
  have b1' : ∀ k : Nat, k < p → gi f1 37 k = gi m 37 k := fun k hk => by rw [← h1, gi_cpy hk]
  rw [show gi (sr f1 38 (va_cpy (m.1 38) (f1.1 38) 0 0 p)) 36 0 = I p by rw [gi_sr, if_neg (by decide), g1], if_neg (cpg hp (by decide)), bnd_s, I_tnc (by omega)]
  generalize h2 : sr f1 38 (va_cpy (m.1 38) (f1.1 38) 0 0 p) = f2
  have t2 : Pr m f1 f2 := by rw [← h2]; exact (Pr.rf m f1).r 38 p
  have g2 : gi f2 36 0 = I p := by rw [← h2, gi_sr, if_neg (by decide), g1]
  have b2' : ∀ k : Nat, k < p → gi f2 38 k = gi m 38 k := fun k hk => by rw [← h2, gi_cpy hk]
  rw [show gi (sr f2 39 (va_cpy (m.1 39) (f2.1 39) 0 0 p)) 36 0 = I p by rw [gi_sr, if_neg (by decide), g2], if_neg (cpg hp (by decide)), bnd_s, I_tnc (by omega)]
  generalize h3 : sr f2 39 (va_cpy (m.1 39) (f2.1 39) 0 0 p) = f3
  have t3 : Pr m f2 f3 := by rw [← h3]; exact (Pr.rf m f2).r 39 p
  have g3 : gi f3 36 0 = I p := by rw [← h3, gi_sr, if_neg (by decide), g2]
  have b3' : ∀ k : Nat, k < p → gi f3 39 k = gi m 39 k := fun k hk => by rw [← h3, gi_cpy hk]
  rw [show gi (sr f3 40 (va_cpy (m.1 40) (f3.1 40) 0 0 p)) 36 0 = I p by rw [gi_sr, if_neg (by decide), g3], if_neg (cpg hp (by decide)), bnd_s, I_tnc (by omega), bnd_s, bnd_s, bnd_s, bnd_s]
  generalize h4 : sr f3 40 (va_cpy (m.1 40) (f3.1 40) 0 0 p) = f4
  have t4 : Pr m f3 f4 := by rw [← h4]; exact (Pr.rf m f3).r 40 p
  have g4 : gi f4 36 0 = I p := by rw [← h4, gi_sr, if_neg (by decide), g3]
  have b4' : ∀ k : Nat, k < p → gi f4 40 k = gi m 40 k := fun k hk => by rw [← h4, gi_cpy hk]
  rw [gi_si_eq, if_neg (cpg hr (by decide)), bnd_s, I_tnc (by omega)]
  generalize h5 : si (sl (sl (sR (sr f4 41 (va_cpy (m.1 41) (f4.1 41) 0 0 p)) 42 (va_cpy (m.2 42) ((sr f4 41 (va_cpy (m.1 41) (f4.1 41) 0 0 p)).2 42) 0 0 8)) 36 7 (gl m 36 7)) 36 8 (gl m 36 8)) 36 9 (I r) = f5
  have t5 : Pr m f4 f5 := by
    rw [← h5]
    exact (((((Pr.rf m f4).r 41 p).R 42 8).l rfl).l rfl).i e9.symm
  have g5 : gi f5 36 9 = I r := by rw [← h5, gi_si_eq]
  have b5' : ∀ k : Nat, k < p → gi f5 41 k = gi m 41 k := fun k hk => by
    rw [← h5, gi_si_ne (by omega)]
    show gi (sr f4 41 (va_cpy (m.1 41) (f4.1 41) 0 0 p)) 41 k = _
    exact gi_cpy hk
  have l7 : gl f5 36 7 = gl m 36 7 := by rw [← h5, gl_si, gl_sl_ne (by omega), gl_sl_eq]
  have l8 : gl f5 36 8 = gl m 36 8 := by rw [← h5, gl_si, gl_sl_eq]
  have l42 : ∀ k : Nat, k < 8 → gl f5 42 k = gl m 42 k := fun k hk => by
    rw [← h5, gl_si, gl_sl_ne (by omega), gl_sl_ne (by omega)]
    exact gl_cpy hk
  rw [show gi (sr f5 43 (va_cpy (m.1 43) (f5.1 43) 0 0 r)) 36 9 = I r by rw [gi_sr, if_neg (by decide), g5], if_neg (cpg hr (by decide)), bnd_s, I_tnc (by omega)]
  have t6 := ((Pr.rf m f5).r 43 r).r 44 r
  refine ⟨_, rfl, ((((t1.tr t2).tr t3).tr t4).tr t5).tr t6, fun k hk => ?_, fun c k hc hk => ?_, fun k hk => ⟨?_, gi_cpy hk⟩, l7, l8, l42⟩
  · rcases hk with e | e <;> subst e
    · exact t6.k1 (t5.k1 (g4.trans e0.symm))
    · exact t6.k1 (g5.trans e9.symm)
  · rcases (show c = 0 ∨ c = 1 ∨ c = 2 ∨ c = 3 ∨ c = 4 by omega) with e | e | e | e | e <;> subst e
    · exact t6.k1 (t5.k1 (t4.k1 (t3.k1 (t2.k1 (b1' k hk)))))
    · exact t6.k1 (t5.k1 (t4.k1 (t3.k1 (b2' k hk))))
    · exact t6.k1 (t5.k1 (t4.k1 (b3' k hk)))
    · exact t6.k1 (t5.k1 (b4' k hk))
    · exact t6.k1 (b5' k hk)
  · rw [gi_srn (by decide), gi_cpy hk]
theorem R.cg {m : MM} {w w' : Nat → Int32} (h : R m w) (e : ∀ i : Nat, i < 640 → w' i = w i) : R m w' := by
  obtain ⟨v1, v2, v3, v4, v5, v6, v7, v8⟩ := h.r0.vc
  refine ⟨⟨h.r0.fCopy (fun _ _ => rfl) (fun _ _ => rfl) (fun _ _ => rfl) rfl (fun _ _ => rfl) (fun _ _ _ _ => rfl) (fun _ _ => rfl) (fun _ _ _ _ => rfl) (fun _ _ _ _ => rfl) (fun _ _ _ _ => rfl) (fun _ _ _ _ => rfl) (fun _ _ => rfl) (fun _ _ _ _ => rfl) (fun _ _ => rfl) (fun q k _ => rfl) (fun i hi => e i hi) ?_, fun a ha => ?_⟩, ?_⟩
  · rw [nQ_e (e 20 (by omega))]
    obtain ⟨p1, p2⟩ := h.r0.pr
    refine ⟨fun a b => ?_, p2⟩
    have k := p1 a b
    constructor
    · intro z
      obtain ⟨j, hj, z1, z2⟩ := k.mp z
      exact ⟨j, hj, by rw [e _ (by omega)]; exact z1, by rw [e _ (by omega)]; exact z2⟩
    · rintro ⟨j, hj, z1, z2⟩
      rw [e _ (by omega)] at z1 z2
      exact k.mpr ⟨j, hj, z1, z2⟩
  · show gi m 50 a = w' (37 + a)
    rw [e _ (by omega)]
    exact h.1.2 a ha
  · have hv := h.v
    refine hv.fr (fun i hi => e i (by omega)) (hv.vg.cg (fun i hi => e i (by omega)) (by rw [e 21 (by omega)]; exact hv.vg.2.2.2.2.1) (by rw [e 22 (by omega)]; exact hv.vg.2.2.2.2.2)) ?_ (by rw [e 29 (by omega)]; exact hv.hlt) v6 v3 (fun s hs => (hv.sp s hs).cg (fun j hj => e _ (by omega))) (fun f hf => (hv.fd f hf).cg (fun j hj => e _ (by omega))) (fun k hk => (hv.st k hk).cg (fun j hj => e _ (by omega)))
    rw [nL_e (e 28 (by omega)), e 28 (by omega)]
    exact hv.cnt.2.2.2.2.2.2
/-- what the second half of a copy has laid down -/
def Hv (m f' : MM) (w : Nat → Int32) : Prop := (∀ k : Nat, k = 0 ∨ k = 9 → gi f' 36 k = gi m 36 k) ∧ (∀ c k : Nat, c < 5 → k < nP w → gi f' (37 + c) k = gi m (37 + c) k) ∧ (∀ k : Nat, k < nQ w → gi f' 43 k = gi m 43 k ∧ gi f' 44 k = gi m 44 k) ∧ (gl f' 36 7 = gl m 36 7 ∧ gl f' 36 8 = gl m 36 8 ∧ ∀ k : Nat, k < 8 → gl f' 42 k = gl m 42 k) ∧ ((∀ k : Nat, k = 0 ∨ k = 1 ∨ k = 7 ∨ k = 8 → gi f' 45 k = gi m 45 k) ∧ (∀ c k : Nat, c < 3 → k < 40 → gi f' (46 + c) k = gi m (46 + c) k) ∧ (∀ k : Nat, k < 7 → gi f' 49 k = gi m 49 k) ∧ ∀ k : Nat, k < 7 → gi f' 50 k = gi m 50 k) ∧ ∀ k : Nat, k = 9 ∨ k = 11 ∨ k = 12 ∨ k = 13 ∨ k = 14 ∨ k = 15 → gi f' 24 k = gi m 24 k
theorem cp98 {m : MM} {w : Nat → Int32} (h : R m w) : ∀ (d i n : Nat) (f : MM), i + d = nF w → d < n → gi f 24 6 = I (nF w) → ∃ f' : MM, D_X6_copyFrom_98 m n (I i) f = some f' ∧ Pr m f f' ∧ (∀ j k : Nat, i ≤ j → j < nF w → k < 9 ∧ k ≠ 5 → gi f' (4 + j) k = gi m (4 + j) k) ∧ (∀ j k : Nat, i ≤ j → j < nF w → k < 3 → gi f' (14 + j) k = gi m (14 + j) k) ∧ Hv m f' w := by
  obtain ⟨v1, v2, v3, v4, v5, v6, v7, v8⟩ := h.r0.vc
  have hv := h.v
  intro d
  induction d with
  | zero =>
    intro i n f hi hn e6
    obtain ⟨n, rfl⟩ : ∃ n' : Nat, n = n' + 1 := ⟨n - 1, by omega⟩
    have hi : i = nF w := by omega
    subst hi
    obtain ⟨f1, g1, t1, a1, a2, a3, a4, a5, a6⟩ := cp0 m f (p := nP w) (r := nQ w) v5 v6 (h.r0.n19 hv) (h.r0.n20 hv)
    obtain ⟨f2, g2, t2, c1, c2, c3, c4⟩ := cp4 m (si f1 24 9 (gi m 24 9))
    have hb : gi m 24 15 = 0 ∨ gi m 24 15 = 1 := by rw [h.r0.s29]; exact hv.hlt
    have t0 : Pr m f1 (si f1 24 9 (gi m 24 9)) := (Pr.rf m f1).i rfl
    have t3 : Pr m f2 (si (si (si (si (si f2 24 11 (gi m 24 11)) 24 12 (gi m 24 12)) 24 13 (gi m 24 13)) 24 14 (gi m 24 14)) 24 15 (gi m 24 15)) := (((((Pr.rf m f2).i rfl).i rfl).i rfl).i rfl).i rfl
    refine ⟨_, ?_, ((t1.tr t0).tr t2).tr t3, fun j k z1 z2 => by omega, fun j k z1 z2 => by omega, fun k hk => t3.k1 (t2.k1 (t0.k1 (a1 k hk))), fun c k hc hk => t3.k1 (t2.k1 (t0.k1 (a2 c k hc hk))), fun k hk => ⟨t3.k1 (t2.k1 (t0.k1 (a3 k hk).1)), t3.k1 (t2.k1 (t0.k1 (a3 k hk).2))⟩, ⟨t3.k2 (t2.k2 (t0.k2 a4)), t3.k2 (t2.k2 (t0.k2 a5)), fun k hk => t3.k2 (t2.k2 (t0.k2 (a6 k hk)))⟩, ⟨fun k hk => t3.k1 (c1 k hk), fun c k hc hk => t3.k1 (c2 c k hc hk), fun k hk => t3.k1 (c3 k hk), fun k hk => t3.k1 (c4 k hk)⟩, fun k hk => ?_⟩
    · unfold D_X6_copyFrom_98
      rw [e6, if_pos (leT (Nat.le_refl _) (by omega)), g1, b1_s, bnd_s, g2, b1_s, bnd_s, bnd_s, bnd_s, bnd_s, if_pos hb, bnd_s]
    · rcases hk with e | e | e | e | e | e <;> subst e
      · exact t3.k1 (t2.k1 (gi_si_eq _ _ _ _))
      all_goals simp (disch := omega) only [gi_si_ne, gi_si_is]
  | succ d ih =>
    intro i n f hi hn e6
    obtain ⟨n, rfl⟩ : ∃ n' : Nat, n = n' + 1 := ⟨n - 1, by omega⟩
    have hb : gi m (4 + i) 8 = 0 ∨ gi m (4 + i) 8 = 1 := by
      rw [h.r0.fd8 (by omega)]
      exact (hv.fd i (by omega)).2.2.2.1
    obtain ⟨f1, g1, t1, a1, a2⟩ := cp2 m f (4 + i) hb
    have e6' : gi f1 24 6 = I (nF w) := by
      rcases t1.1 24 6 with e | e
      · rw [e]; exact h.r0.n18 hv
      · rw [e]; exact e6
    obtain ⟨f', g', t', c1, c2, c3⟩ := ih (i + 1) n f1 (by omega) (by omega) e6'
    refine ⟨f', ?_, t1.tr t', fun j k z1 z2 hk => ?_, fun j k z1 z2 hk => ?_, c3⟩
    · unfold D_X6_copyFrom_98
      rw [e6, if_neg (leF (by omega) (by omega)), gdI (by omega) (by omega), gdI (by omega) (by omega), I_tnc (by omega), g1, b1_s, bnd_s, ixs1]
      exact g'
    · by_cases e : j = i
      · subst e; exact t'.k1 (a1 k hk)
      · exact c1 j k (by omega) z2 hk
    · by_cases e : j = i
      · subst e
        have k9 := a2 k hk
        rw [show 4 + j + 10 = 14 + j by omega] at k9
        exact t'.k1 k9
      · exact c2 j k (by omega) z2 hk
theorem cp25 {m : MM} {w : Nat → Int32} (h : R m w) : ∀ (d i n : Nat) (f : MM), i + d = nS w → d < n → gi f 24 1 = I (nS w) → ∃ f' : MM, D_X6_copyFrom_25 m n (I i) f = some f' ∧ Pr m f f' ∧ (∀ s k : Nat, i ≤ s → s < nS w → k < 8 → gi f' s k = gi m s k) ∧ (∀ j k : Nat, j < nF w → k < 9 ∧ k ≠ 5 → gi f' (4 + j) k = gi m (4 + j) k) ∧ (∀ j k : Nat, j < nF w → k < 3 → gi f' (14 + j) k = gi m (14 + j) k) ∧ Hv m f' w ∧ (∀ k : Nat, k = 3 ∨ k = 6 → gi f' 24 k = gi m 24 k) ∧ (∀ k : Nat, k < 6 → gi f' 27 k = gi m 27 k) ∧ gi f' 28 0 = gi m 28 0 ∧ (∀ k : Nat, k < 8 → gi f' 29 k = gi m 29 k) ∧ ∀ c k : Nat, c < 5 → k < 8 → gi f' (30 + c) k = gi m (30 + c) k := by
  obtain ⟨v1, v2, v3, v4, v5, v6, v7, v8⟩ := h.r0.vc
  have hv := h.v
  intro d
  induction d with
  | zero =>
    intro i n f hi hn e6
    obtain ⟨n, rfl⟩ : ∃ n' : Nat, n = n' + 1 := ⟨n - 1, by omega⟩
    have hi : i = nS w := by omega
    subst hi
    have t0 : Pr m f (sr (si f 24 3 (gi m 24 3)) 27 (va_cpy (m.1 27) ((si f 24 3 (gi m 24 3)).1 27) 0 0 6)) := ((Pr.rf m f).i rfl).r 27 6
    obtain ⟨f1, g1, t1, a1, a2, a3⟩ := cp5 m (sr (si f 24 3 (gi m 24 3)) 27 (va_cpy (m.1 27) ((si f 24 3 (gi m 24 3)).1 27) 0 0 6))
    have t2 : Pr m f1 (si f1 24 6 (gi m 24 6)) := (Pr.rf m f1).i rfl
    obtain ⟨f2, g2, t3, c1, c2, c3⟩ := cp98 h (nF w) 0 FU (si f1 24 6 (gi m 24 6)) (by omega) (by show nF w < 5000; omega) (by rw [gi_si_eq]; exact h.r0.n18 hv)
    have g2 : D_X6_copyFrom_98 m FU (0 : Int32) (si f1 24 6 (gi m 24 6)) = some f2 := g2
    refine ⟨f2, ?_, ((t0.tr t1).tr t2).tr t3, fun s k z1 z2 => by omega, fun j k hj hk => c1 j k (Nat.zero_le _) hj hk, fun j k hj hk => c2 j k (Nat.zero_le _) hj hk, c3, fun k hk => ?_, fun k hk => t3.k1 (t2.k1 (t1.k1 (gi_cpy hk))), t3.k1 (t2.k1 a1), fun k hk => t3.k1 (t2.k1 (a2 k hk)), fun c k hc hk => t3.k1 (t2.k1 (a3 c k hc hk))⟩
    · unfold D_X6_copyFrom_25
      rw [e6, if_pos (leT (Nat.le_refl _) (by omega)), bnd_s, bnd_s, g1, b1_s, bnd_s]
      exact g2
    · rcases hk with e | e <;> subst e
      · exact t3.k1 (t2.k1 (t1.k1 (by rw [gi_srn (by decide), gi_si_eq])))
      · exact t3.k1 (gi_si_eq _ _ _ _)
  | succ d ih =>
    intro i n f hi hn e6
    obtain ⟨n, rfl⟩ : ∃ n' : Nat, n = n' + 1 := ⟨n - 1, by omega⟩
    have hb : gi m i 2 = 0 ∨ gi m i 2 = 1 := by
      rw [h.r0.sp i 2 (by omega) (by decide)]
      exact (hv.sp i (by omega)).2.2.1
    obtain ⟨f1, g1, t1, a1⟩ := cp8 m f i hb
    have e6' : gi f1 24 1 = I (nS w) := by
      rcases t1.1 24 1 with e | e
      · rw [e]; exact h.r0.n15 hv
      · rw [e]; exact e6
    obtain ⟨f', g', t', c1, c2⟩ := ih (i + 1) n f1 (by omega) (by omega) e6'
    refine ⟨f', ?_, t1.tr t', fun s k z1 z2 hk => ?_, c2⟩
    · unfold D_X6_copyFrom_25
      rw [e6, if_neg (leF (by omega) (by omega)), gdI (by omega) (by omega), gdI (by omega) (by omega), I_tnc (by omega), g1, b1_s, bnd_s, ixs1]
      exact g'
    · by_cases e : s = i
      · subst e; exact t'.k1 (a1 k hk)
      · exact c1 s k (by omega) z2 hk
/-- a machine that is copied tells the same -/
theorem copy_s {m : MM} {w : Nat → Int32} (h : R m w) (f : MM) : ∃ f' : MM, D_X6_copyFrom f m = some f' ∧ R f' w := by
  obtain ⟨v1, v2, v3, v4, v5, v6, v7, v8⟩ := h.r0.vc
  have hv := h.v
  have t0 : Pr m f (si (sr f 25 (va_cpy (m.1 25) (f.1 25) 0 0 15)) 24 1 (gi m 24 1)) := ((Pr.rf m f).r 25 15).i rfl
  obtain ⟨f', g', t', aS, aF, aR, ⟨h36, h37, h43, h42, h45, h24⟩, b24, b27, b28, b29, b30⟩ := cp25 h (nS w) 0 FU (si (sr f 25 (va_cpy (m.1 25) (f.1 25) 0 0 15)) 24 1 (gi m 24 1)) (by omega) (by show nS w < 5000; omega) (by rw [gi_si_eq]; exact h.r0.n15 hv)
  refine ⟨f', g', ⟨?_, fun a ha => ?_⟩, hv⟩
  · refine h.r0.fCopy (fun k hk => t'.k1 (by rw [gi_si_ne (by omega), gi_cpy hk])) (fun k hk => ?_) b27 b28 b29 b30 h36 (fun s k hs hk => aS s k (Nat.zero_le _) hs hk) aF aR h37 h45.1 h45.2.1 h45.2.2.1 (fun q k hq => ?_) (fun i _ => rfl) ?_
    · by_cases c : k = 1
      · subst c; exact t'.k1 (gi_si_eq _ _ _ _)
      · by_cases c3 : k = 3 ∨ k = 6
        · exact b24 k c3
        · exact h24 k (by omega)
    · rcases hq with ⟨rfl, rfl | rfl⟩ | ⟨rfl, hk⟩
      · exact h42.1
      · exact h42.2.1
      · exact h42.2.2 k hk
    · obtain ⟨p1, p2⟩ := h.r0.pr
      have g3 : ∀ i : Nat, i < nQ w → gi f' 43 i = gi m 43 i := fun i hi => (h43 i hi).1
      have g4 : ∀ i : Nat, i < nQ w → gi f' 44 i = gi m 44 i := fun i hi => (h43 i hi).2
      refine ⟨fun a b => ?_, fun i j hi hj => by rw [g3 i hi, g3 j hj, g4 i hi, g4 j hj]; exact p2 i j hi hj⟩
      rw [← p1 a b]
      constructor
      · rintro ⟨i, hi, z1, z2⟩
        exact ⟨i, hi, by rw [← g3 i hi]; exact z1, by rw [← g4 i hi]; exact z2⟩
      · rintro ⟨i, hi, z1, z2⟩
        exact ⟨i, hi, by rw [g3 i hi]; exact z1, by rw [g4 i hi]; exact z2⟩
  · rw [h45.2.2.2 a ha]
    exact h.1.2 a ha
-- the reference's copies
theorem copies_xl (a b : Nat) (hab : a ≠ b) : ∀ (d i n : Nat) (x : MM), i + d = 640 → d < n → ∃ x' : MM, D_X10_copies_2 n a b (I i) x = some x' ∧ (∀ q k : Nat, (q ≠ b ∨ k < i) → gi x' q k = gi x q k) ∧ (∀ k : Nat, i ≤ k → k < 640 → gi x' b k = gi x a k) := by
  intro d
  induction d with
  | zero =>
    intro i n x hi hn
    obtain ⟨n, rfl⟩ : ∃ n' : Nat, n = n' + 1 := ⟨n - 1, by omega⟩
    have hi : i = 640 := by omega
    subst hi
    refine ⟨x, ?_, fun q k _ => rfl, fun k h1 h2 => by omega⟩
    unfold D_X10_copies_2
    rw [if_pos (by decide)]
  | succ d ih =>
    intro i n x hi hn
    obtain ⟨n, rfl⟩ : ∃ n' : Nat, n = n' + 1 := ⟨n - 1, by omega⟩
    obtain ⟨x', g1, g2, g3⟩ := ih (i + 1) n (si x b i (gi x a i)) (by omega) (by omega)
    refine ⟨x', ?_, fun q k hq => ?_, fun k h1 h2 => ?_⟩
    · unfold D_X10_copies_2
      rw [if_neg (show ¬ (640 : Int32) ≤ I i from leF (b := i) (a := 640) (by omega) (by decide)), gdI (by omega) (by omega), gdI (by omega) (by omega), I_tnc (by omega), bnd_s, bnd_s, ixs1]
      exact g1
    · rw [g2 q k (by omega), gi_si_ne (by omega)]
    · by_cases e : k = i
      · subst e
        rw [g2 b k (by omega), gi_si_eq]
      · rw [g3 k (by omega) h2, gi_si_ne (by omega)]
theorem copies_x (a b : Nat) (hab : a ≠ b) (x : MM) : ∃ x' : MM, D_X10_copies a b x = some x' ∧ (∀ q k : Nat, q ≠ b → gi x' q k = gi x q k) ∧ (∀ k : Nat, k < 640 → gi x' b k = gi x a k) := by
  obtain ⟨x', g1, g2, g3⟩ := copies_xl a b hab 640 0 FU x (by omega) (by decide)
  exact ⟨x', g1, fun q k hq => g2 q k (Or.inl hq), fun k hk => g3 k (Nat.zero_le _) hk⟩
