/-! PROPERTY: the whole text, read -/
theorem stop_semi {T : Nat → Nat} {L q : Nat} {l : List Nat} {r : List (Nat × (Nat → Nat))} (hl : 0 < l.length) (h59 : l.getD 0 0 = 59) (hq : q ≤ L) : ∀ p : Nat, Fits T p (Kp l :: r) q → Stop T L p := fun _ h => fits_stop hl (Or.inr h59) h hq
theorem at_semi {T : Nat → Nat} {q : Nat} {l : List Nat} {r : List (Nat × (Nat → Nat))} (hl : 0 < l.length) (h59 : l.getD 0 0 = 59) {p : Nat} (h : Fits T p (Kp l :: r) q) : T p = 59 := by
  have e := h.1 0 hl
  rw [Nat.add_zero] at e
  rw [e]
  exact h59
theorem text_read {L : Nat} {T : Nat → Nat} (ht : Tok L T) {x : MM} {r : List (Nat × (Nat → Nat))} (S V A Q E : Nat) (fx fp fm sx sy : Nat → Nat) (a b c : Nat) (h1 : 1 ≤ S ∧ S ≤ 4) (h2 : 1 ≤ V ∧ V ≤ 50) (h3 : A ≤ 90) (h4 : Q ≤ 5) (h5 : E ≤ 999999) (hx1 : ∀ f : Nat, fx f ≤ 999) (hx2 : ∀ f : Nat, fp f ≤ 500) (hx3 : ∀ f : Nat, fm f ≤ 100) (hy1 : ∀ k : Nat, sx k ≤ 999) (hy2 : ∀ k : Nat, sy k ≤ 999) (ha : a ≤ 20) (hb : b ≤ 200) (hc : c ≤ 200) (hr : ∀ p : Nat, Fits T p r L → Stop T L p) (hx : Xs L T 0 wB x) (h : Fits T 0 (Kp [109, 97, 99, 104, 105, 110, 101] :: (Np [S, V] ++ (Kp [59, 118, 105, 115, 105, 111, 110] :: (Np [A, 10, Q] ++ (Kp [59, 110, 111, 122, 122, 108, 101, 115] :: (Np [2, 1] ++ (Kp [59, 107, 105, 110, 100] :: (Np [0] ++ (Kp [59, 107, 105, 110, 100] :: (Np [1] ++ (Kp [59, 107, 105, 110, 100] :: (Np [0] ++ (Kp [59, 115, 101, 101, 100] :: (Np [E] ++ (Kp [59, 102, 101, 101, 100, 101, 114] :: (Np [0, (fx 0), (fp 0), (fm 0)] ++ (Kp [59, 102, 101, 101, 100, 101, 114] :: (Np [1, (fx 1), (fp 1), (fm 1)] ++ (Kp [59, 102, 101, 101, 100, 101, 114] :: (Np [2, (fx 2), (fp 2), (fm 2)] ++ (Kp [59, 115, 112, 111, 116] :: (Np [0, (sx 0), (sy 0)] ++ (Kp [59, 115, 112, 111, 116] :: (Np [1, (sx 1), (sy 1)] ++ (Kp [59, 115, 112, 111, 116] :: (Np [2, (sx 2), (sy 2)] ++ (Kp [59, 115, 112, 111, 116] :: (Np [0, (sx 3), (sy 3)] ++ (Kp [59, 115, 112, 111, 116] :: (Np [1, (sx 4), (sy 4)] ++ (Kp [59, 115, 112, 111, 116] :: (Np [2, (sx 5), (sy 5)] ++ (Kp [59, 97, 108, 97, 114, 109] :: (Np [a] ++ (Kp [59, 119, 101, 97, 114] :: (Np [b, 30, c] ++ r)))))))))))))))))))))))))))))))))))) L) : ∃ (p : Nat) (x' : MM), D_X10_readsAll x = D_X10_readsAll_39 4983 x' ∧ Xs L T p (wZ S V A Q E fx fp fm sx sy a b c) x' ∧ Fits T p r L := by
  have hw0 : WordAt T (0 + 0) 0 := fits_word h (m := 0) (k := 0) (by decide +kernel) (by decide +kernel)
  have g0 := h.2
  have k0 : (0 : Nat) + (Kp [109, 97, 99, 104, 105, 110, 101]).1 = 0 + strL 0 := by decide +kernel
  rw [k0] at g0
  have s0 : Stop T L (0 + strL 0) := fits_stop (l := [32]) (by decide) (Or.inl rfl) g0 (Nat.le_refl _)
  obtain ⟨p0, m0, f0⟩ := fits_nums (Nat.le_refl _) (stop_semi (by decide) (by decide) (Nat.le_refl _)) [S, V] (fun u hu => by simp at hu; omega) g0
  obtain ⟨x0, c0, e0⟩ := all_begin ht hx hw0 s0 m0 h1 h2
  obtain ⟨l1, t1, hw, hs, p1, hn, f1⟩ := fits_state (k := 2) (vs := [A, 10, Q]) (by decide) (by decide +kernel) (by decide) (by decide +kernel) (by simp) (fun u hu => by simp at hu; omega) (Nat.le_refl _) (stop_semi (by decide) (by decide) (Nat.le_refl _)) f0
  obtain ⟨x1, c1, e1⟩ := all_step ht (n := 4999) e0 l1 t1 (fun y hy => st_vision ht hy hw hs A 10 Q hn (by omega) (by omega) (by omega))
  clear hw hs hn
  obtain ⟨l2, t2, hw, hs, p2, hn, f2⟩ := fits_state (k := 7) (vs := [2, 1]) (by decide) (by decide +kernel) (by decide) (by decide +kernel) (by simp) (fun u hu => by simp at hu; omega) (Nat.le_refl _) (stop_semi (by decide) (by decide) (Nat.le_refl _)) f1
  have hq59 : p2 < L → T p2 = 59 := fun _ => at_semi (by decide) (by decide) f2
  obtain ⟨x2, c2, e2⟩ := all_step ht (n := 4998) e1 l2 t2 (fun y hy => st_nozzles ht hy hw hs hn (by simp [upd, wB] <;> rfl) (by omega) (by omega) hq59)
  clear hw hs hn
  obtain ⟨l3, t3, hw, hs, p3, hn, f3⟩ := fits_state (k := 8) (vs := [0]) (by decide) (by decide +kernel) (by decide) (by decide +kernel) (by simp) (fun u hu => by simp at hu; omega) (Nat.le_refl _) (stop_semi (by decide) (by decide) (Nat.le_refl _)) f2
  obtain ⟨x3, c3, e3⟩ := all_step ht (n := 4997) e2 l3 t3 (fun y hy => st_kind (k := 0) (n := 2) ht hy hw hs hn (by simp [upd, wB] <;> rfl) (by omega) (by simp [upd, wB] <;> rfl) (by omega) (by omega))
  clear hw hs hn
  obtain ⟨l4, t4, hw, hs, p4, hn, f4⟩ := fits_state (k := 8) (vs := [1]) (by decide) (by decide +kernel) (by decide) (by decide +kernel) (by simp) (fun u hu => by simp at hu; omega) (Nat.le_refl _) (stop_semi (by decide) (by decide) (Nat.le_refl _)) f3
  obtain ⟨x4, c4, e4⟩ := all_step ht (n := 4996) e3 l4 t4 (fun y hy => st_kind (k := 1) (n := 2) ht hy hw hs hn (by simp [upd, wB] <;> rfl) (by omega) (by simp [upd, wB] <;> rfl) (by omega) (by omega))
  clear hw hs hn
  obtain ⟨l5, t5, hw, hs, p5, hn, f5⟩ := fits_state (k := 8) (vs := [0]) (by decide) (by decide +kernel) (by decide) (by decide +kernel) (by simp) (fun u hu => by simp at hu; omega) (Nat.le_refl _) (stop_semi (by decide) (by decide) (Nat.le_refl _)) f4
  obtain ⟨x5, c5, e5⟩ := all_step ht (n := 4995) e4 l5 t5 (fun y hy => st_kind (k := 2) (n := 2) ht hy hw hs hn (by simp [upd, wB] <;> rfl) (by omega) (by simp [upd, wB] <;> rfl) (by omega) (by omega))
  clear hw hs hn
  obtain ⟨l6, t6, hw, hs, p6, hn, f6⟩ := fits_state (k := 4) (vs := [E]) (by decide) (by decide +kernel) (by decide) (by decide +kernel) (by simp) (fun u hu => by simp at hu; omega) (Nat.le_refl _) (stop_semi (by decide) (by decide) (Nat.le_refl _)) f5
  obtain ⟨x6, c6, e6⟩ := all_step ht (n := 4994) e5 l6 t6 (fun y hy => st_seed ht hy hw hs E hn (by omega))
  clear hw hs hn
  obtain ⟨l7, t7, hw, hs, p7, hn, f7⟩ := fits_state (k := 9) (vs := [0, (fx 0), (fp 0), (fm 0)]) (by decide) (by decide +kernel) (by decide) (by decide +kernel) (by simp) (fun u hu => by have := hx1 0; have := hx2 0; have := hx3 0; simp at hu; omega) (Nat.le_refl _) (stop_semi (by decide) (by decide) (Nat.le_refl _)) f6
  obtain ⟨x7, c7, e7⟩ := all_step ht (n := 4993) e6 l7 t7 (fun y hy => st_feeder (F := 0) (n := 3) ht hy hw hs hn (by simp [upd, fdW, wB] <;> rfl) (by omega) (by simp [upd, fdW, wB] <;> rfl) (by omega) (by omega) (hx1 0) (hx2 0) (hx3 0))
  clear hw hs hn
  obtain ⟨l8, t8, hw, hs, p8, hn, f8⟩ := fits_state (k := 9) (vs := [1, (fx 1), (fp 1), (fm 1)]) (by decide) (by decide +kernel) (by decide) (by decide +kernel) (by simp) (fun u hu => by have := hx1 1; have := hx2 1; have := hx3 1; simp at hu; omega) (Nat.le_refl _) (stop_semi (by decide) (by decide) (Nat.le_refl _)) f7
  obtain ⟨x8, c8, e8⟩ := all_step ht (n := 4992) e7 l8 t8 (fun y hy => st_feeder (F := 1) (n := 3) ht hy hw hs hn (by simp [upd, fdW, wB] <;> rfl) (by omega) (by simp [upd, fdW, wB] <;> rfl) (by omega) (by omega) (hx1 1) (hx2 1) (hx3 1))
  clear hw hs hn
  obtain ⟨l9, t9, hw, hs, p9, hn, f9⟩ := fits_state (k := 9) (vs := [2, (fx 2), (fp 2), (fm 2)]) (by decide) (by decide +kernel) (by decide) (by decide +kernel) (by simp) (fun u hu => by have := hx1 2; have := hx2 2; have := hx3 2; simp at hu; omega) (Nat.le_refl _) (stop_semi (by decide) (by decide) (Nat.le_refl _)) f8
  obtain ⟨x9, c9, e9⟩ := all_step ht (n := 4991) e8 l9 t9 (fun y hy => st_feeder (F := 2) (n := 3) ht hy hw hs hn (by simp [upd, fdW, wB] <;> rfl) (by omega) (by simp [upd, fdW, wB] <;> rfl) (by omega) (by omega) (hx1 2) (hx2 2) (hx3 2))
  clear hw hs hn
  obtain ⟨l10, t10, hw, hs, p10, hn, f10⟩ := fits_state (k := 10) (vs := [0, (sx 0), (sy 0)]) (by decide) (by decide +kernel) (by decide) (by decide +kernel) (by simp) (fun u hu => by have := hy1 0; have := hy2 0; simp at hu; omega) (Nat.le_refl _) (stop_semi (by decide) (by decide) (Nat.le_refl _)) f9
  obtain ⟨x10, c10, e10⟩ := all_step ht (n := 4990) e9 l10 t10 (fun y hy => st_spot (P := 0) (n := 3) ht hy hw hs hn (by simp [upd, fdW, stW, wB] <;> rfl) (by omega) (by simp [upd, fdW, stW, wB] <;> rfl) (by omega) (by omega) (hy1 0) (hy2 0))
  clear hw hs hn
  obtain ⟨l11, t11, hw, hs, p11, hn, f11⟩ := fits_state (k := 10) (vs := [1, (sx 1), (sy 1)]) (by decide) (by decide +kernel) (by decide) (by decide +kernel) (by simp) (fun u hu => by have := hy1 1; have := hy2 1; simp at hu; omega) (Nat.le_refl _) (stop_semi (by decide) (by decide) (Nat.le_refl _)) f10
  obtain ⟨x11, c11, e11⟩ := all_step ht (n := 4989) e10 l11 t11 (fun y hy => st_spot (P := 1) (n := 3) ht hy hw hs hn (by simp [upd, fdW, stW, wB] <;> rfl) (by omega) (by simp [upd, fdW, stW, wB] <;> rfl) (by omega) (by omega) (hy1 1) (hy2 1))
  clear hw hs hn
  obtain ⟨l12, t12, hw, hs, p12, hn, f12⟩ := fits_state (k := 10) (vs := [2, (sx 2), (sy 2)]) (by decide) (by decide +kernel) (by decide) (by decide +kernel) (by simp) (fun u hu => by have := hy1 2; have := hy2 2; simp at hu; omega) (Nat.le_refl _) (stop_semi (by decide) (by decide) (Nat.le_refl _)) f11
  obtain ⟨x12, c12, e12⟩ := all_step ht (n := 4988) e11 l12 t12 (fun y hy => st_spot (P := 2) (n := 3) ht hy hw hs hn (by simp [upd, fdW, stW, wB] <;> rfl) (by omega) (by simp [upd, fdW, stW, wB] <;> rfl) (by omega) (by omega) (hy1 2) (hy2 2))
  clear hw hs hn
  obtain ⟨l13, t13, hw, hs, p13, hn, f13⟩ := fits_state (k := 10) (vs := [0, (sx 3), (sy 3)]) (by decide) (by decide +kernel) (by decide) (by decide +kernel) (by simp) (fun u hu => by have := hy1 3; have := hy2 3; simp at hu; omega) (Nat.le_refl _) (stop_semi (by decide) (by decide) (Nat.le_refl _)) f12
  obtain ⟨x13, c13, e13⟩ := all_step ht (n := 4987) e12 l13 t13 (fun y hy => st_spot (P := 3) (n := 3) ht hy hw hs hn (by simp [upd, fdW, stW, wB] <;> rfl) (by omega) (by simp [upd, fdW, stW, wB] <;> rfl) (by omega) (by omega) (hy1 3) (hy2 3))
  clear hw hs hn
  obtain ⟨l14, t14, hw, hs, p14, hn, f14⟩ := fits_state (k := 10) (vs := [1, (sx 4), (sy 4)]) (by decide) (by decide +kernel) (by decide) (by decide +kernel) (by simp) (fun u hu => by have := hy1 4; have := hy2 4; simp at hu; omega) (Nat.le_refl _) (stop_semi (by decide) (by decide) (Nat.le_refl _)) f13
  obtain ⟨x14, c14, e14⟩ := all_step ht (n := 4986) e13 l14 t14 (fun y hy => st_spot (P := 4) (n := 3) ht hy hw hs hn (by simp [upd, fdW, stW, wB] <;> rfl) (by omega) (by simp [upd, fdW, stW, wB] <;> rfl) (by omega) (by omega) (hy1 4) (hy2 4))
  clear hw hs hn
  obtain ⟨l15, t15, hw, hs, p15, hn, f15⟩ := fits_state (k := 10) (vs := [2, (sx 5), (sy 5)]) (by decide) (by decide +kernel) (by decide) (by decide +kernel) (by simp) (fun u hu => by have := hy1 5; have := hy2 5; simp at hu; omega) (Nat.le_refl _) (stop_semi (by decide) (by decide) (Nat.le_refl _)) f14
  obtain ⟨x15, c15, e15⟩ := all_step ht (n := 4985) e14 l15 t15 (fun y hy => st_spot (P := 5) (n := 3) ht hy hw hs hn (by simp [upd, fdW, stW, wB] <;> rfl) (by omega) (by simp [upd, fdW, stW, wB] <;> rfl) (by omega) (by omega) (hy1 5) (hy2 5))
  clear hw hs hn
  obtain ⟨l16, t16, hw, hs, p16, hn, f16⟩ := fits_state (k := 5) (vs := [a]) (by decide) (by decide +kernel) (by decide) (by decide +kernel) (by simp) (fun u hu => by simp at hu; omega) (Nat.le_refl _) (stop_semi (by decide) (by decide) (Nat.le_refl _)) f15
  obtain ⟨x16, c16, e16⟩ := all_step ht (n := 4984) e15 l16 t16 (fun y hy => st_alarm ht hy hw hs a hn (by omega))
  clear hw hs hn
  obtain ⟨l17, t17, hw, hs, p17, hn, f17⟩ := fits_state (k := 6) (vs := [b, 30, c]) (by decide) (by decide +kernel) (by decide) (by decide +kernel) (by simp) (fun u hu => by simp at hu; omega) (Nat.le_refl _) hr f16
  obtain ⟨x17, c17, e17⟩ := all_step ht (n := 4983) e16 l17 t17 (fun y hy => st_wear ht hy hw hs b 30 c hn (by omega) (by omega) (by omega))
  clear hw hs hn
  refine ⟨_, _, ?_, e17, f17⟩
  exact c0.trans (c1.trans (c2.trans (c3.trans (c4.trans (c5.trans (c6.trans (c7.trans (c8.trans (c9.trans (c10.trans (c11.trans (c12.trans (c13.trans (c14.trans (c15.trans (c16.trans c17))))))))))))))))
