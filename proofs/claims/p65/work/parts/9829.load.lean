/-! PROPERTY: a text in order is loaded; what stays true, with the pairs -/
theorem load_in_order {m h : MM} {w0 : Nat → Int32} (hR : R m w0) (f : MM) {L : Nat} {T : Nat → Nat} (ht : Tok L T) (e1 : gi h 0 1 = I L) (e5 : ∀ k : Nat, k < L → gi h 5 k = b8 (T k)) {w : Nat → Int32} (hrd : ∀ x : MM, Xs L T 0 wB x → ∃ x' : MM, D_X10_readsAll x = some (1, x') ∧ Xs L T L w x') : ∃ h' m' f' : MM, D_X9_load h m f = some (w 19, h', m', f') ∧ R m' w ∧ (∀ q k : Nat, q ≠ 0 → q ≠ 4 → gi h' q k = gi h q k) ∧ gi h' 0 1 = 0 := by
  have hL := ht.1
  obtain ⟨f0, k1, k2⟩ := clear_s f
  have hd : Hd L T (si (si (si (si (si h 0 1 0) 4 2 (I L)) 4 3 0) 4 6 0) 4 7 0) 0 := ⟨by omega, by rw [gi_si_ne (by omega), gi_si_ne (by omega), gi_si_ne (by omega), gi_si_eq], by rw [gi_si_ne (by omega), gi_si_ne (by omega), gi_si_eq]; rfl, fun k hk => by rw [gi_si_ne (by omega), gi_si_ne (by omega), gi_si_ne (by omega), gi_si_ne (by omega), gi_si_ne (by omega)]; exact e5 k hk⟩
  have h6 : gi (si (si (si (si (si h 0 1 0) 4 2 (I L)) 4 3 0) 4 6 0) 4 7 0) 4 6 = 0 := by rw [gi_si_ne (by omega), gi_si_eq]
  obtain ⟨x, xd, h12, h3⟩ : ∃ x : MM, Xd L T x 0 ∧ gi x 0 12 = 0 ∧ ∀ i : Nat, gi x 3 i = wB i := ⟨(fun q k => if q = 3 then wB k else if q = 7 then I (T k) else if k = 8 then I L else 0, fun _ _ => 0), ⟨Nat.zero_le _, rfl, rfl, fun k _ => rfl⟩, rfl, fun i => rfl⟩
  have o := rm_s ht hd xd h6 h12 k2 (fun i _ => h3 i)
  obtain ⟨x1, cx, ex⟩ := hrd x ⟨xd, h12, h3⟩
  have ec : D_X1_readText (I L) (si h 0 1 0) f = b2 (D_X1_readMachine (si (si (si (si (si h 0 1 0) 4 2 (I L)) 4 3 0) 4 6 0) 4 7 0) f0) (fun m8 m9 => D_X1_readText_41 FU (0 : Int32) m8 m9) := by
    unfold D_X1_readText
    rw [if_neg (show ¬ (900 : Int32) < I L from fun z => absurd ((I_lt (a := 900) (by omega) (by omega)).mp z) (by omega))]
    simp only [bnd_s]
    rw [k1, b1_s]
  have fh0 : ∀ q k : Nat, q ≠ 0 → q ≠ 4 → gi (si (si (si (si (si h 0 1 0) 4 2 (I L)) 4 3 0) 4 6 0) 4 7 0) q k = gi h q k := fun q k z1 z2 => by rw [gi_si_ne (by omega), gi_si_ne (by omega), gi_si_ne (by omega), gi_si_ne (by omega), gi_si_ne (by omega)]
  have fh1 : gi (si (si (si (si (si h 0 1 0) 4 2 (I L)) 4 3 0) 4 6 0) 4 7 0) 0 1 = 0 := by rw [gi_si_ne (by omega), gi_si_ne (by omega), gi_si_ne (by omega), gi_si_ne (by omega), gi_si_eq]
  unfold D_X9_load
  rw [e1, bnd_s, bnd_s, ec]
  generalize si (si (si (si (si h 0 1 0) 4 2 (I L)) 4 3 0) 4 6 0) 4 7 0 = h0 at o fh0 fh1
  rcases o with ⟨h', f', x', c1, c2, c3, c4, c5⟩ | ⟨h', f', x', p, -, c1, c2, c3, c4, c5⟩
  · exact absurd (show (1 : Int32) = 0 from congrArg Prod.fst (Option.some.inj (cx.symm.trans c2))) (by decide)
  · obtain ⟨⟨j1, j2, j3, j4⟩, r1, r2⟩ := c3
    have exx : x1 = x' := congrArg Prod.snd (Option.some.inj (cx.symm.trans c2))
    subst exx
    have r3 : R f' w := r1.cg (fun i _ => (ex.2.2 i).symm)
    obtain ⟨m', u1, u2⟩ := copy_s r3 m
    refine ⟨si h' 0 2 (gi h' 4 6), m', f', ?_, u2, fun q k z1 z2 => by rw [gi_si_ne (by omega), c4 q k z2, fh0 q k z1 z2], by rw [gi_si_ne (by omega), c4 0 1 (by omega), fh1]⟩
    rw [c1, b2_s, bnd_s, gi_si_eq, if_pos j3, u1, b1_s, u2.r0.c19]
theorem inv_rowQ {N : Nat → Nat} (n0 : N 0 = 2) (n1 : N 1 = 1) {S : Nat} (V A Q E : Nat) (fx fp fm sx sy : Nat → Nat) (a b c : Nat) (hS : S ≤ 4) (hp : ∀ f : Nat, f < 3 → fp f ≤ 500) : Inv N 0 (wQ (wZ S V A Q E fx fp fm sx sy a b c)) := inv_rowG n0 n1 V A Q E fx fp fm sx sy a b c hS hp (fun i h1 h2 => by
  unfold wQ
  rw [upd_ne (by omega), upd_ne (by omega), upd_ne (by omega), upd_ne (by omega), upd_ne (by omega), upd_ne (by omega)])
theorem wQ_19 (S V A Q E : Nat) (fx fp fm sx sy : Nat → Nat) (a b c : Nat) : wQ (wZ S V A Q E fx fp fm sx sy a b c) 19 = I 6 := by
  unfold wQ
  rw [upd_ne (by omega), upd_ne (by omega), upd_ne (by omega), upd_ne (by omega), upd_ne (by omega), upd_ne (by omega)]
  exact wZ_19 S V A Q E fx fp fm sx sy a b c
