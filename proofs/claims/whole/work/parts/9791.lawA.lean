/-! PURE: the law -/
def Rel (T : Nat) (h m c0 c1 x : MM) : Prop := R m (rw1 x) ∧ Rn T (rw1 x 23) ∧ Tx h x ∧ gi h 0 2 = gi x 0 13 ∧ Sn T h c0 c1 x
theorem Tx.cg {h h' x x' : MM} (a : Tx h x) (e1 : gi h' 0 1 = gi h 0 1) (e5 : ∀ k : Nat, gi h' 5 k = gi h 5 k) (e8 : gi x' 0 8 = gi x 0 8) (e7 : ∀ k : Nat, gi x' 7 k = gi x 7 k) : Tx h' x' := by
  obtain ⟨n, n1, n2, n3, n4⟩ := a
  refine ⟨n, n1, e1.trans n2, e8.trans n3, fun k hk => ?_⟩
  obtain ⟨c, c1, c2, c3, c4⟩ := n4 k hk
  exact ⟨c, c1, c2, (e7 k).trans c3, (e5 k).trans c4⟩
theorem Sn.cg {T T' : Nat} {h h' c0 c1 x x' : MM} (a : Sn T h c0 c1 x) (hT : T ≤ T') (eh : ∀ k : Nat, gi h' 6 k = gi h 6 k) (ex : ∀ q k : Nat, 4 ≤ q → q ≤ 6 → gi x' q k = gi x q k) : Sn T' h' c0 c1 x' := by
  obtain ⟨⟨s1, s2⟩, s3, s4⟩ := a
  refine ⟨⟨by rw [eh, ex 6 0 (by omega) (by omega)]; exact s1, by rw [eh, ex 6 1 (by omega) (by omega)]; exact s2⟩, fun z => ?_, fun z => ?_⟩
  · rw [eh] at z
    obtain ⟨r1, r2⟩ := s3 z
    exact ⟨r1.cg (fun i _ => ex 4 i (by omega) (by omega)), by rw [ex 4 23 (by omega) (by omega)]; exact r2.mono hT⟩
  · rw [eh] at z
    obtain ⟨r1, r2⟩ := s4 z
    exact ⟨r1.cg (fun i _ => ex 5 i (by omega) (by omega)), by rw [ex 5 23 (by omega) (by omega)]; exact r2.mono hT⟩
theorem Rel.keep {T T' : Nat} {h m c0 c1 x : MM} (a : Rel T h m c0 c1 x) (hT : T ≤ T') {h' m' x' : MM} {w' : Nat → Int32} (hR : R m' w') (hw : Rn T' (w' 23)) (fh : HF h h') (fx : XK x x') : Rel T' h' m' c0 c1 (pw x' w') := by
  obtain ⟨-, -, a3, a4, a5⟩ := a
  refine ⟨by rw [rw1_pw]; exact hR, by rw [rw1_pw]; exact hw, a3.cg (fh 0 1 (by omega)) (fun k => fh 5 k (by omega)) ?_ (fun k => ?_), ?_, a5.cg hT (fun k => fh 6 k (by omega)) (fun q k h1 h2 => ?_)⟩
  · rw [gi_pw (by decide), fx 0 8 (by omega)]
  · rw [gi_pw (by decide), fx 7 k (by omega)]
  · rw [gi_pw (by decide), fx 0 13 (by omega), fh 0 2 (by omega)]
    exact a4
  · rw [gi_pw (by omega), fx q k (by omega)]
/-- what the next rounds of the law's loop come to -/
def Nxt (k : LKont) (i T : Nat) : Prop := ∀ h m f c0 c1 x u : MM, Rel T h m c0 c1 x → k (I (i + 3)) h m f c0 c1 x u = some ()
theorem Rel.up {T T' : Nat} {h m c0 c1 x : MM} (a : Rel T h m c0 c1 x) (hT : T ≤ T') : Rel T' h m c0 c1 x := by
  have := a.keep hT a.1 (a.2.1.mono hT) (HF.rf h) (XK.rf x)
  rwa [pw_self] at this
theorem Rel.rd {T T' : Nat} {h m c0 c1 x x' : MM} (a : Rel T h m c0 c1 x) (hT : T ≤ T') (fx : XK x x') : Rel T' h m c0 c1 (pw x' (rw1 x)) := a.keep hT a.1 (a.2.1.mono hT) (HF.rf h) fx
theorem Rel.ac {T : Nat} {h m c0 c1 x h' m' x' : MM} {w' : Nat → Int32} (a : Rel T h m c0 c1 x) (hR : R m' w') (hd : ∃ δ : Int32, Rn 599500 δ ∧ w' 23 = rw1 x 23 + δ) (fh : HF h h') (fx : XK x x') : Rel (T + 599500) h' m' c0 c1 (pw x' w') := by
  obtain ⟨δ, d1, d2⟩ := hd
  exact a.keep (by omega) hR (by rw [d2]; exact a.2.1.add d1) fh fx
theorem la_N {T i : Nat} {k : LKont} {h m f c0 c1 x u : MM} (a : Rel T h m c0 c1 x) (hk : Nxt k i (T + 599500)) {c : Option Int32} {d : Option (Int32 × MM)} (hA : AnsN x (rw1 x) c d) : b1 c (fun v1 => b2 d (fun v3 m4 => if v1 = v3 then (bnd (I i + (3 : Int32)) (fun v6 => k v6 h m f c0 c1 m4 u)) else (none))) = some () := by
  obtain ⟨v, x', rfl, rfl, fx⟩ := hA
  rw [b1_s, b2_s, if_pos rfl, bnd_s, ixs3]
  exact hk _ _ _ _ _ _ _ (a.rd (by omega) fx)
theorem la_N64 {T i : Nat} {k : LKont} {h m f c0 c1 x u : MM} (a : Rel T h m c0 c1 x) (hk : Nxt k i (T + 599500)) {c : Option Int64} {d : Option (Int64 × MM)} (hA : AnsN x (rw1 x) c d) : b1 c (fun v1 => b2 d (fun v3 m4 => if v1 = v3 then (bnd (I i + (3 : Int32)) (fun v6 => k v6 h m f c0 c1 m4 u)) else (none))) = some () := by
  obtain ⟨v, x', rfl, rfl, fx⟩ := hA
  rw [b1_s, b2_s, if_pos rfl, bnd_s, ixs3]
  exact hk _ _ _ _ _ _ _ (a.rd (by omega) fx)
theorem la_A {T i : Nat} {k : LKont} {h m f c0 c1 x u : MM} (a : Rel T h m c0 c1 x) (hk : Nxt k i (T + 599500)) {k0 k1 : Int32} {c : Option (Nat ⊕ Int32)} {d : Option (Int32 × MM)} (hA : Ans x (rw1 x) k0 k1 c d) {e0 e1 : Option (Int32 × MM)} (h0 : k0 ≠ 0 → e0 = some (k0, u)) (h1 : k1 ≠ 0 → e1 = some (k1, u)) : b2 (wL c e0 e1 (fun z => some ((0 : Int32), sl u 0 0 (z.toInt64)))) (fun v2 m3 => b2 d (fun v6 m7 => b1 (D_X10_thrown m7) (fun v9 => if v9 = v2 then (if v2 = 0 then (if (gl m3 0 0) = v6.toInt64 then (bnd (I i + (3 : Int32)) (fun v12 => k v12 h m f c0 c1 m7 m3)) else (none)) else (bnd (I i + (3 : Int32)) (fun v11 => k v11 h m f c0 c1 m7 m3))) else (none)))) = some () := by
  rcases hA with ⟨j, v, x', rfl, ⟨rfl, n0, e6⟩ | ⟨rfl, n1, e6⟩, rfl, fx⟩ | ⟨v, x', rfl, rfl, e6, fx⟩
  · rw [wL_0, h0 n0, b2_s, b2_s, thd_eq, b1_s, gi_pw (by decide), e6, if_pos rfl, if_neg n0, bnd_s, ixs3]
    exact hk _ _ _ _ _ _ _ (a.rd (by omega) fx)
  · rw [wL_1, h1 n1, b2_s, b2_s, thd_eq, b1_s, gi_pw (by decide), e6, if_pos rfl, if_neg n1, bnd_s, ixs3]
    exact hk _ _ _ _ _ _ _ (a.rd (by omega) fx)
  · rw [wL_r, b2_s, b2_s, thd_eq, b1_s, gi_pw (by decide), e6, if_pos rfl, if_pos rfl, gl_sl_eq, if_pos rfl, bnd_s, ixs3]
    exact hk _ _ _ _ _ _ _ (a.rd (by omega) fx)
theorem la_A64 {T i : Nat} {k : LKont} {h m f c0 c1 x u : MM} (a : Rel T h m c0 c1 x) (hk : Nxt k i (T + 599500)) {k0 k1 : Int32} {c : Option (Nat ⊕ Int64)} {d : Option (Int64 × MM)} (hA : Ans x (rw1 x) k0 k1 c d) {e0 e1 : Option (Int32 × MM)} (h0 : k0 ≠ 0 → e0 = some (k0, u)) (h1 : k1 ≠ 0 → e1 = some (k1, u)) : b2 (wL c e0 e1 (fun z => some ((0 : Int32), sl u 0 0 z))) (fun v2 m3 => b2 d (fun v6 m7 => b1 (D_X10_thrown m7) (fun v9 => if v9 = v2 then (if v2 = 0 then (if (gl m3 0 0) = v6 then (bnd (I i + (3 : Int32)) (fun v12 => k v12 h m f c0 c1 m7 m3)) else (none)) else (bnd (I i + (3 : Int32)) (fun v11 => k v11 h m f c0 c1 m7 m3))) else (none)))) = some () := by
  rcases hA with ⟨j, v, x', rfl, ⟨rfl, n0, e6⟩ | ⟨rfl, n1, e6⟩, rfl, fx⟩ | ⟨v, x', rfl, rfl, e6, fx⟩
  · rw [wL_0, h0 n0, b2_s, b2_s, thd_eq, b1_s, gi_pw (by decide), e6, if_pos rfl, if_neg n0, bnd_s, ixs3]
    exact hk _ _ _ _ _ _ _ (a.rd (by omega) fx)
  · rw [wL_1, h1 n1, b2_s, b2_s, thd_eq, b1_s, gi_pw (by decide), e6, if_pos rfl, if_neg n1, bnd_s, ixs3]
    exact hk _ _ _ _ _ _ _ (a.rd (by omega) fx)
  · rw [wL_r, b2_s, b2_s, thd_eq, b1_s, gi_pw (by decide), e6, if_pos rfl, if_pos rfl, gl_sl_eq, if_pos rfl, bnd_s, ixs3]
    exact hk _ _ _ _ _ _ _ (a.rd (by omega) fx)
theorem la_W {T i : Nat} {k : LKont} {h m f c0 c1 x u : MM} (a : Rel T h m c0 c1 x) (hk : Nxt k i (T + 599500)) {k0 k1 : Int32} {c : Option (Nat ⊕ (Int32 × MM))} {d : Option (Int32 × MM)} (hA : AnsW m x (rw1 x) k0 k1 c d) {e0 e1 : Option (Int32 × MM × MM)} (h0 : k0 ≠ 0 → e0 = some (k0, m, u)) (h1 : k1 ≠ 0 → e1 = some (k1, m, u)) : b3 (wL c e0 e1 (fun z => some ((0 : Int32), z.2, sl u 0 0 (z.1.toInt64)))) (fun v3 m4 m5 => b2 d (fun v9 m10 => b1 (D_X10_thrown m10) (fun v12 => if v12 = v3 then (if v3 = 0 then (if (gl m5 0 0) = v9.toInt64 then (bnd (I i + (3 : Int32)) (fun v15 => k v15 h m4 f c0 c1 m10 m5)) else (none)) else (bnd (I i + (3 : Int32)) (fun v14 => k v14 h m4 f c0 c1 m10 m5))) else (none)))) = some () := by
  rcases hA with ⟨j, v, x', rfl, ⟨rfl, n0, e6⟩ | ⟨rfl, n1, e6⟩, rfl, fx⟩ | ⟨v, m', x', w', rfl, rfl, e6, hR, hd, fx⟩
  · rw [wL_0, h0 n0, b3_s, b2_s, thd_eq, b1_s, gi_pw (by decide), e6, if_pos rfl, if_neg n0, bnd_s, ixs3]
    exact hk _ _ _ _ _ _ _ (a.rd (by omega) fx)
  · rw [wL_1, h1 n1, b3_s, b2_s, thd_eq, b1_s, gi_pw (by decide), e6, if_pos rfl, if_neg n1, bnd_s, ixs3]
    exact hk _ _ _ _ _ _ _ (a.rd (by omega) fx)
  · rw [wL_r, b3_s, b2_s, thd_eq, b1_s, gi_pw (by decide), e6, if_pos rfl, if_pos rfl, gl_sl_eq, if_pos rfl, bnd_s, ixs3]
    exact hk _ _ _ _ _ _ _ (a.ac hR hd (HF.rf h) fx)
theorem la_B {T i : Nat} {k : LKont} {h m f c0 c1 x u : MM} (a : Rel T h m c0 c1 x) (hk : Nxt k i (T + 599500)) {k0 k1 : Int32} {c : Option (Nat ⊕ (Int32 × MM))} {d : Option (Int32 × MM)} (hA : AnsW m x (rw1 x) k0 k1 c d) {e0 e1 : Option (Int32 × MM × MM)} (h0 : k0 ≠ 0 → e0 = some (k0, m, u)) (h1 : k1 ≠ 0 → e1 = some (k1, m, u)) : b3 (wL c e0 e1 (fun z => some ((0 : Int32), z.2, sl u 0 0 (if z.1 = 0 then (0 : Int64) else (1 : Int64))))) (fun v3 m4 m5 => b2 d (fun v9 m10 => b1 (D_X10_thrown m10) (fun v12 => if v12 = v3 then (if v3 = 0 then (if v9 = 0 then (if (gl m5 0 0) = (0 : Int64) then (bnd (I i + (3 : Int32)) (fun v15 => k v15 h m4 f c0 c1 m10 m5)) else (none)) else (if (gl m5 0 0) = (1 : Int64) then (bnd (I i + (3 : Int32)) (fun v16 => k v16 h m4 f c0 c1 m10 m5)) else (none))) else (bnd (I i + (3 : Int32)) (fun v14 => k v14 h m4 f c0 c1 m10 m5))) else (none)))) = some () := by
  rcases hA with ⟨j, v, x', rfl, ⟨rfl, n0, e6⟩ | ⟨rfl, n1, e6⟩, rfl, fx⟩ | ⟨v, m', x', w', rfl, rfl, e6, hR, hd, fx⟩
  · rw [wL_0, h0 n0, b3_s, b2_s, thd_eq, b1_s, gi_pw (by decide), e6, if_pos rfl, if_neg n0, bnd_s, ixs3]
    exact hk _ _ _ _ _ _ _ (a.rd (by omega) fx)
  · rw [wL_1, h1 n1, b3_s, b2_s, thd_eq, b1_s, gi_pw (by decide), e6, if_pos rfl, if_neg n1, bnd_s, ixs3]
    exact hk _ _ _ _ _ _ _ (a.rd (by omega) fx)
  · rw [wL_r, b3_s, b2_s, thd_eq, b1_s, gi_pw (by decide), e6, if_pos rfl, if_pos rfl, gl_sl_eq]
    by_cases cv : v = 0
    · rw [if_pos cv, if_pos cv, if_pos rfl, bnd_s, ixs3]
      exact hk _ _ _ _ _ _ _ (a.ac hR hd (HF.rf h) fx)
    · rw [if_neg cv, if_neg cv, if_pos rfl, bnd_s, ixs3]
      exact hk _ _ _ _ _ _ _ (a.ac hR hd (HF.rf h) fx)
theorem la_P {T i : Nat} {k : LKont} {h m c0 c1 x u : MM} (a : Rel T h m c0 c1 x) (hk : Nxt k i (T + 599500)) {c : Option (Int32 × MM × MM)} {d : Option (Int32 × MM)} (hA : AnsP x h (rw1 x) c d) : b3 c (fun v1 m2 m3 => b2 d (fun v5 m6 => if v1 = v5 then (bnd (I i + (3 : Int32)) (fun v8 => k v8 m2 m m3 c0 c1 m6 u)) else (none))) = some () := by
  obtain ⟨v, h', f', x', w', rfl, rfl, ew, fh, fx⟩ := hA
  rw [b3_s, b2_s, if_pos rfl, bnd_s, ixs3]
  exact hk _ _ _ _ _ _ _ (a.keep (by omega) (a.1.cg ew) (by rw [ew 23 (by omega)]; exact a.2.1.mono (by omega)) fh fx)
theorem ifs_le {a b : Int32} {A B r : Option Unit} (h1 : A = r) (h2 : B = r) : (if a ≤ b then A else B) = r := by
  split
  · exact h1
  · exact h2
theorem ifs_lt {a b : Int32} {A B r : Option Unit} (h1 : A = r) (h2 : B = r) : (if a < b then A else B) = r := by
  split
  · exact h1
  · exact h2
