/-! PROPERTY: what each call of the law keeps -/
theorem irem {a b : Nat} (ha : a < 2147483648) (hb : b < 2147483648) : I a - I a / I b * I b = I (a % b) := by
  rw [div32 ha hb, I_mul, I_sub (Nat.div_mul_le_self a b)]
  congr 1
  have := Nat.div_add_mod a b
  rw [Nat.mul_comm] at this
  omega
/-- the machine m tells what w tells; what stays true of w; how many there are of each -/
def Sta (S : Nat) (N : Nat → Nat) (m : MM) (w : Nat → Int32) : Prop := R m w ∧ Inv N 0 w ∧ (w 15 = I S ∧ w 16 = I 2 ∧ w 17 = I 3 ∧ w 18 = I 3 ∧ w 19 = I 6)
theorem Sta.cnt {S : Nat} {N : Nat → Nat} {m : MM} {w : Nat → Int32} (h : Sta S N m w) (hS : S < 1000) : nS w = S ∧ nT w = 2 ∧ nK w = 3 ∧ nF w = 3 ∧ nP w = 6 := by
  obtain ⟨-, -, h1, h2, h3, h4, h5⟩ := h
  unfold nS nT nK nF nP
  rw [h1, h2, h3, h4, h5]
  exact ⟨I_tnc (by omega), rfl, rfl, rfl, rfl⟩
theorem cnt_keep {m m' : MM} {w w' : Nat → Int32} (hR : R m w) (hR' : R m' w') (h : CN m m') : w' 15 = w 15 ∧ w' 16 = w 16 ∧ w' 17 = w 17 ∧ w' 18 = w 18 ∧ w' 19 = w 19 := by
  obtain ⟨h1, h2, h3, h4, h5⟩ := h
  exact ⟨by rw [← hR'.r0.c15, h1, hR.r0.c15], by rw [← hR'.r0.c16, h2, hR.r0.c16], by rw [← hR'.r0.c17, h3, hR.r0.c17], by rw [← hR'.r0.c18, h4, hR.r0.c18], by rw [← hR'.r0.c19, h5, hR.r0.c19]⟩
theorem Sta.go {S : Nat} {N N' : Nat → Nat} {m m' : MM} {w w' : Nat → Int32} (h : Sta S N m w) (hR' : R m' w') (hI' : Inv N' 0 w') (hc : CN m m') : Sta S N' m' w' := by
  obtain ⟨c1, c2, c3, c4, c5⟩ := cnt_keep h.1 hR' hc
  obtain ⟨-, -, h1, h2, h3, h4, h5⟩ := h
  exact ⟨hR', hI', by rw [c1, h1], by rw [c2, h2], by rw [c3, h3], by rw [c4, h4], by rw [c5, h5]⟩
/-- what an action's call comes to -/
def Nx (S : Nat) (N : Nat → Nat) (w : Nat → Int32) (m' : MM) : Prop := ∃ w' : Nat → Int32, Sta S N m' w' ∧ ∃ δ : Int32, Rn 599500 δ ∧ w' 23 = w 23 + δ
theorem sta_W {S : Nat} {N N' : Nat → Nat} {m : MM} {w : Nat → Int32} (h : Sta S N m w) {c : Option (Nat ⊕ (Int32 × MM))} {d : Option (Int32 × MM)} {x : MM} {k0 k1 : Int32} (a : AnsW m x w k0 k1 c d) (hno : ∀ j : Nat, c ≠ some (.inl j)) (hp : ∃ (v : Int32) (y : MM), d = some (v, y) ∧ Inv N' 0 (rw1 y)) (hc : ∀ (v : Int32) (m' : MM), c = some (.inr (v, m')) → CN m m') : ∃ (v : Int32) (m' : MM), c = some (.inr (v, m')) ∧ Nx S N' w m' := by
  rcases a with ⟨j, v, x', h1, -⟩ | ⟨v, m', x', w', h1, h2, h3, h4, h5, h6⟩
  · exact absurd h1 (hno j)
  · obtain ⟨v2, y, e, hi⟩ := hp
    have ey : y = pw x' w' := congrArg Prod.snd (Option.some.inj (e.symm.trans h2))
    subst ey
    rw [rw1_pw] at hi
    exact ⟨v, m', h1, w', h.go h4 hi (hc v m' h1), h5⟩
section STEPS
variable {S : Nat} {N : Nat → Nat} {m : MM} {w : Nat → Int32}
theorem g_change (h : Sta S N m w) (hS : S < 1000) (hN : ∀ t : Nat, t < 6 → N t < 1000) (hh : MM) {s t : Nat} (hs : s < S) (ht : t < 2) : ∃ (v : Int32) (m' : MM), D_X9_changeNozzle (I s) (I t) hh m = some (.inr (v, m')) ∧ Nx S (upk 1 N) w m' := by
  obtain ⟨e1, e2, e3, e4, e5⟩ := h.cnt hS
  refine sta_W h (T_changeNozzle h.1 zM hh (I s) (I t)) (fun j z => ?_) (p_change hN h.1 h.2.1 zM (by omega) (by omega)) (fun v m' e => cn_X9_changeNozzle e)
  unfold D_X9_changeNozzle at z
  rw [h.1.r0.n15 h.1.v, h.1.r0.n16 h.1.v, e1, e2, rqi_y (by omega) (ok_I (by omega) hs), bX_s, rqi_y (by omega) (ok_I (by omega) ht), bX_s] at z
  exact lif_no z
theorem g_pick (h : Sta S N m w) (hS : S < 1000) (hh : MM) {s f : Nat} (hs : s < S) (hf : f < 3) : ∃ (v : Int32) (m' : MM), D_X9_pick (I s) (I f) hh m = some (.inr (v, m')) ∧ Nx S (upk 1 N) w m' := by
  obtain ⟨e1, e2, e3, e4, e5⟩ := h.cnt hS
  refine sta_W h (T_pick h.1 zM hh (I s) (I f)) (fun j z => ?_) (p_pick h.1 h.2.1 zM (by omega) (by omega)) (fun v m' e => cn_X9_pick e)
  unfold D_X9_pick at z
  rw [h.1.r0.n15 h.1.v, h.1.r0.n18 h.1.v, e1, e4, rqi_y (by omega) (ok_I (by omega) hs), bX_s, rqi_y (by omega) (ok_I (by omega) hf), bX_s] at z
  exact lif_no z
theorem g_look (h : Sta S N m w) (hS : S < 1000) (hh : MM) {s : Nat} (hs : s < S) : ∃ (v : Int32) (m' : MM), D_X9_look (I s) hh m = some (.inr (v, m')) ∧ Nx S (upk 1 N) w m' := by
  obtain ⟨e1, e2, e3, e4, e5⟩ := h.cnt hS
  refine sta_W h (T_look h.1 zM hh (I s)) (fun j z => ?_) (p_look h.1 h.2.1 zM (by omega)) (fun v m' e => cn_X9_look e)
  unfold D_X9_look at z
  rw [h.1.r0.n15 h.1.v, e1, rqi_y (by omega) (ok_I (by omega) hs), bX_s] at z
  exact lif_no z
theorem g_place (h : Sta S N m w) (hS : S < 1000) (hh : MM) {s k : Nat} (hs : s < S) (hk : k < 6) : ∃ (v : Int32) (m' : MM), D_X9_place (I s) (I k) hh m = some (.inr (v, m')) ∧ Nx S (upk 1 N) w m' := by
  obtain ⟨e1, e2, e3, e4, e5⟩ := h.cnt hS
  refine sta_W h (T_place h.1 zM hh (I s) (I k)) (fun j z => ?_) (p_place h.1 h.2.1 zM (by omega) (by omega)) (fun v m' e => cn_X9_place e)
  unfold D_X9_place at z
  rw [h.1.r0.n15 h.1.v, h.1.r0.n19 h.1.v, e1, e5, rqi_y (by omega) (ok_I (by omega) hs), bX_s, rqi_y (by omega) (ok_I (by omega) hk), bX_s] at z
  exact lif_no z
theorem g_discard (h : Sta S N m w) (hS : S < 1000) (hh : MM) {s : Nat} (hs : s < S) : ∃ (v : Int32) (m' : MM), D_X9_discard (I s) hh m = some (.inr (v, m')) ∧ Nx S (upk 1 N) w m' := by
  obtain ⟨e1, e2, e3, e4, e5⟩ := h.cnt hS
  refine sta_W h (T_discard h.1 zM hh (I s)) (fun j z => ?_) (p_discard h.1 h.2.1 zM (by omega)) (fun v m' e => cn_X9_discard e)
  unfold D_X9_discard at z
  rw [h.1.r0.n15 h.1.v, e1, rqi_y (by omega) (ok_I (by omega) hs), bX_s] at z
  exact lif_no z
theorem g_clean (h : Sta S N m w) (hS : S < 1000) (hh : MM) {s : Nat} (hs : s < S) : ∃ (v : Int32) (m' : MM), D_X9_clean (I s) hh m = some (.inr (v, m')) ∧ Nx S (upk 1 N) w m' := by
  obtain ⟨e1, e2, e3, e4, e5⟩ := h.cnt hS
  refine sta_W h (T_clean h.1 zM hh (I s)) (fun j z => ?_) (p_clean h.1 h.2.1 zM (by omega)) (fun v m' e => cn_X9_clean e)
  unfold D_X9_clean at z
  rw [h.1.r0.n15 h.1.v, e1, rqi_y (by omega) (ok_I (by omega) hs), bX_s] at z
  exact lif_no z
theorem g_splice (h : Sta S N m w) (hS : S < 1000) (hh : MM) {f q : Nat} (hf : f < 3) (hq : q ≤ 500) : ∃ (v : Int32) (m' : MM), D_X9_splice (I f) (I q) hh m = some (.inr (v, m')) ∧ Nx S N w m' := by
  obtain ⟨e1, e2, e3, e4, e5⟩ := h.cnt hS
  refine sta_W h (T_splice h.1 zM hh (I f) (I q)) (fun j z => ?_) (p_splice h.1 h.2.1 zM (by omega) hq) (fun v m' e => cn_X9_splice e)
  unfold D_X9_splice at z
  rw [h.1.r0.n18 h.1.v, e4, rqi_y (by omega) (ok_I (by omega) hf), bX_s, rqr_ok (n := 501) (by decide), if_pos (ok_I (by omega) (by omega)), bX_s] at z
  exact lif_no z
theorem g_takeReel (h : Sta S N m w) (hS : S < 1000) (hh : MM) {f : Nat} (hf : f < 3) : ∃ (v : Int32) (m' : MM), D_X9_takeReel (I f) hh m = some (.inr (v, m')) ∧ Nx S N w m' := by
  obtain ⟨e1, e2, e3, e4, e5⟩ := h.cnt hS
  refine sta_W h (T_takeReel h.1 zM hh (I f)) (fun j z => ?_) (p_takeReel h.1 h.2.1 zM (by omega)) (fun v m' e => cn_X9_takeReel e)
  unfold D_X9_takeReel at z
  rw [h.1.r0.n18 h.1.v, e4, rqi_y (by omega) (ok_I (by omega) hf), bX_s] at z
  exact lif_no z
theorem g_leave1 (h : Sta S N m w) (hS : S < 1000) (hh : MM) {k : Nat} (hk : k < 6) : ∃ (v : Int32) (m' : MM), D_X9_leaveOut (I k) 1 hh m = some (.inr (v, m')) ∧ Nx S N w m' := by
  obtain ⟨e1, e2, e3, e4, e5⟩ := h.cnt hS
  refine sta_W h (T_leaveOut1 h.1 zM hh (I k)) (fun j z => ?_) (p_leave h.1 h.2.1 zM (by omega) (Or.inr rfl)) (fun v m' e => cn_X9_leaveOut e)
  unfold D_X9_leaveOut at z
  rw [h.1.r0.n19 h.1.v, e5, rqi_y (by omega) (ok_I (by omega) hk), bX_s] at z
  exact lif_no z
theorem g_leave0 (h : Sta S N m w) (hS : S < 1000) (hh : MM) {k : Nat} (hk : k < 6) : ∃ (v : Int32) (m' : MM), D_X9_leaveOut (I k) 0 hh m = some (.inr (v, m')) ∧ Nx S N w m' := by
  obtain ⟨e1, e2, e3, e4, e5⟩ := h.cnt hS
  refine sta_W h (T_leaveOut0 h.1 zM hh (I k)) (fun j z => ?_) (p_leave h.1 h.2.1 zM (by omega) (Or.inl rfl)) (fun v m' e => cn_X9_leaveOut e)
  unfold D_X9_leaveOut at z
  rw [h.1.r0.n19 h.1.v, e5, rqi_y (by omega) (ok_I (by omega) hk), bX_s] at z
  exact lif_no z
theorem g_set7 (h : Sta S N m w) (hh : MM) {n : Nat} (hn : n < 6) : ∃ (v : Int32) (m' : MM), D_X9_set 7 (I n) hh m = some (.inr (v, m')) ∧ Nx S N w m' := by
  refine sta_W h (T_set h.1 zM hh 7 (I n)) (fun j z => ?_) (p_set7 h.1 h.2.1 zM hn) (fun v m' e => cn_X9_set e)
  unfold D_X9_set at z
  rw [rqr_ok (n := 15) (by decide), if_pos (show ok (7 : Int32) 15 from ok_I (k := 7) (by decide) (by decide)), bX_s, if_neg (by decide), if_neg (by decide), if_neg (by decide), if_neg (by decide), bnd_s, if_neg (by decide), if_neg (by decide), if_neg (by decide), show lea (7 : Int32).toNatClampNeg = 0 by decide, show mst (7 : Int32).toNatClampNeg = 5 by decide, rqr_ok (n := 6) (by decide), if_pos (ok_I (by omega) hn), bX_s] at z
  exact lif_no z
theorem g_newBoard (h : Sta S N m w) (hh : MM) : ∃ (v : Int32) (m' : MM), D_X9_newBoard hh m = some (v, m') ∧ Nx S N w m' := by
  obtain ⟨v, m', x', w', h1, h2, h3, h4, h5⟩ := T_newBoard h.1 zM hh
  obtain ⟨v2, y, e, hi⟩ := p_newBoard h.1 h.2.1 zM
  have ey : y = pw x' w' := congrArg Prod.snd (Option.some.inj (e.symm.trans h2))
  subst ey
  rw [rw1_pw] at hi
  exact ⟨v, m', h1, w', h.go h3 hi (cn_X9_newBoard h1), h4⟩
theorem g_resume (h : Sta S N m w) (hh : MM) : ∃ (v : Int32) (m' : MM), D_X9_resume hh m = some (v, m') ∧ Nx S N w m' := by
  obtain ⟨v, m', x', w', h1, h2, h3, h4, h5⟩ := T_resume h.1 zM hh
  obtain ⟨v2, y, e, hi⟩ := p_resume h.1 h.2.1 zM
  have ey : y = pw x' w' := congrArg Prod.snd (Option.some.inj (e.symm.trans h2))
  subst ey
  rw [rw1_pw] at hi
  exact ⟨v, m', h1, w', h.go h3 hi (cn_X9_resume h1), h4⟩
theorem g_step (h : Sta S N m w) (hN : ∀ t : Nat, t < 6 → N t < 1000) (hh : MM) : ∃ (v : Int32) (h' m' : MM), D_X9_step hh m = some (v, h', m') ∧ HF hh h' ∧ Nx S (upk 1 N) w m' := by
  obtain ⟨v, h', m', x', w', h1, h2, h0, h3, h4, h5⟩ := T_step h.1 zM hh
  obtain ⟨v2, y, e, hi⟩ := p_step hN h.1 h.2.1 zM
  have ey : y = pw x' w' := congrArg Prod.snd (Option.some.inj (e.symm.trans h2))
  subst ey
  rw [rw1_pw] at hi
  exact ⟨v, h', m', h1, h0, w', h.go h3 hi (cn_X9_step h1), h4⟩
theorem g_run (h : Sta S N m w) (hN : ∀ t : Nat, t < 6 → N t < 1000) (hh : MM) {n : Nat} (n1 : 1 ≤ n) (n5 : n ≤ 500) : ∃ (v : Int32) (h' m' : MM), D_X9_run (I n) hh m = some (.inr (v, h', m')) ∧ HF hh h' ∧ Nx S (upk n N) w m' := by
  rcases T_run h.1 zM hh (I n) with ⟨h1, -⟩ | ⟨v, h', m', x', w', h1, h2, -, h0, h3, h4, h5⟩
  · exfalso
    unfold D_X9_run at h1
    rw [show D_X9_requireRange (I n) 1 500 = some (.inr ()) by
      unfold D_X9_requireRange
      rw [if_neg (show ¬ I n < (1 : Int32) from fun z => by have := (I_lt (a := n) (b := 1) (by omega) (by decide)).mp z; omega), if_pos (show I n ≤ (500 : Int32) from leT (b := 500) n5 (by decide))]
      rfl, bX_s] at h1
    exact lif_no h1
  · obtain ⟨v2, y, e, hi⟩ := p_run hN h.1 h.2.1 zM n1 n5
    have ey : y = pw x' w' := congrArg Prod.snd (Option.some.inj (e.symm.trans h2))
    subst ey
    rw [rw1_pw] at hi
    exact ⟨v, h', m', h1, h0, w', h.go h3 hi (cn_X9_run h1), h4⟩
end STEPS
