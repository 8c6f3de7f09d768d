/-! addsUp: its contract -/
theorem Ln.app {n : Nat} {ad : Nat → Nat} {sh : Sh} {Wf : MM → va_W} (h : Ln n ad sh Wf) (t : va_W) : Ln n ad sh (fun z => Wf z ++ t) := by
  obtain ⟨φ, h⟩ := h
  refine ⟨φ, fun m q hq => ⟨app_l (h m q hq).1, fun r t' => ?_⟩⟩
  have h1 := (h m q hq).1
  show (Wf m ++ t).set (φ q) _ = _
  rw [List.set_append_left _ _ (List.getElem?_eq_some_iff.mp h1).1, (h m q hq).2]
abbrev auW (cs : Nat → ClassId) (q : Nat) (r : Nat → Int32) : va_W := [(q, .inl (cs 1, 2, .inl r))]
theorem Ln.one {cs : Nat → ClassId} (w : va_W) (q : Nat) : Ln 1 (fun _ => q) (ash cs) (fun z : MM => w ++ auW cs q (z.1 0)) := by
  refine ⟨fun _ => w.length, fun m k hk => ?_⟩
  have : k = 0 := by omega
  subst this
  refine ⟨?_, fun r t => ?_⟩
  · show (w ++ auW cs q (m.1 0))[w.length]? = some (q, .inl (cs 1, 2, .inl (m.1 0)))
    rw [List.getElem?_append_right (Nat.le_refl _), Nat.sub_self]
    rfl
  · show (w ++ auW cs q (m.1 0)).set w.length (q, .inl (cs 1, 2, .inl r)) = w ++ auW cs q (va_up m.1 0 r 0)
    rw [List.set_append_right _ _ (Nat.le_refl _), Nat.sub_self]
    unfold va_up
    rw [if_pos rfl]
    rfl
def rowU0 : MM := (fun _ _ => 0, fun _ _ => 0)
def rowU : MM := si (si rowU0 0 0 2) 0 1 1
set_option maxHeartbeats 4000000 in
set_option maxRecDepth 100000 in
theorem c_L_addsUp (l : Launch) {D : va_G} {cs : Nat → ClassId} {adh ad ma : Nat → Nat} {Wf : MM → MM → va_W} (hLh : ∀ m : MM, Ln 8 adh (hsh cs adh ma) (fun z => Wf z m)) (hL : ∀ h : MM, Ln 51 ad (msh cs ad) (fun z => Wf h z)) (hAd : ∀ a0_ b0_ a1_ b1_ : MM, (Wf a0_ a1_).map (fun q => q.1) = (Wf b0_ b1_).map (fun q => q.1)) (hm1 : ma 1 = ad 24) (h : MM) (m : MM) {x1 x2 : Int32} {u' : MM} (hDA : D_addsA h m = some (x1, x2)) (hDB : D_addsB x1 x2 h m rowU = some (1, u')) : CtG l yL_addsUp cL_addsUp 8 (some .boolean) 8 126 1 2 D cs X0 [.ref (adh 0)] (Wf h m) (fun rv w1 => rv = some (.int 1) ∧ ∃ t : va_W, w1 = Wf h m ++ t) := by
  refine CtG.ofW (by decide) (Nat.le_of_ble_eq_true rfl) ?_
  intro p e s m0 below meth c A Q ls args Fl0 hr hlocks hP hD hXs hS hA hl hmn hret
  obtain ⟨hx, hb, hml, hown, hT, hK, hSS⟩ := id Fl0
  have hl : lv_has ls 8 [(0, .ref (adh 0))] := hl
  have hD1 : ∀ w1 : va_W, w1.map (fun q => q.1) = (Wf h m).map (fun q => q.1) → va_D A w1 := fun w1 e1 => hD.map e1
  have hA1 : ∀ (w1 : va_W) (z : Nat), w1.map (fun q => q.1) = (Wf h m).map (fun q => q.1) → s.heap.size ≤ z → ∀ q : Nat, va_A w1 z q → A q := fun w1 z e1 hz q hq => by
    rcases hq with ⟨k, y, hk⟩ | hq
    · exact (hD1 w1 e1).2 k _ hk
    · exact hA q (Nat.le_trans hz hq)
  refine w_addsA l (Nat.le_of_ble_eq_true rfl) (Nat.le_of_ble_eq_true rfl) hLh hL hAd hm1 h m Fl0 hD1 hA1 ⟨Nat.zero_le _, Nat.zero_le _⟩ hDA (fun H locs ls hP hS hl => ?_) _ _ _ hP hS hl
  refine lv_iconst (v := (2 : Int32)) hx hb dL_addsUp_34 (by decide) ?_
  refine rnI (cs := cs) hx hb hT tw_1_86 hK hP hD hS hA 2 (by decide) (by decide) (by decide) (Nat.le_of_ble_eq_true rfl) (Nat.le_of_ble_eq_true rfl) dL_addsUp_35 (fun q H hP hD hS => ?_)
  refine lv_dup hx hb dL_addsUp_37 rfl ?_
  refine lv_iconst (v := (0 : Int32)) hx hb dL_addsUp_38 (by decide) ?_
  refine lv_iconst (v := (2 : Int32)) hx hb dL_addsUp_39 (by decide) ?_
  refine riast (mm := rowU0) hx hb hK hP hD hS (Ln.one (Wf h m) q) 0 (Nat.le_of_ble_eq_true rfl) (fun r => rfl) (N := 2) (by decide) (j := 0) (by decide) dL_addsUp_40 (m2 := si rowU0 0 0 2) rfl (fun H locs hP hS => ?_)
  refine lv_dup hx hb dL_addsUp_41 rfl ?_
  refine lv_iconst (v := (1 : Int32)) hx hb dL_addsUp_42 (by decide) ?_
  refine lv_iconst (v := (1 : Int32)) hx hb dL_addsUp_43 (by decide) ?_
  refine riast (mm := si rowU0 0 0 2) hx hb hK hP (hD.map (by rw [List.map_append, List.map_append]; rfl)) hS (Ln.one (Wf h m) q) 0 (Nat.le_of_ble_eq_true rfl) (fun r => rfl) (N := 2) (by decide) (j := 1) (by decide) dL_addsUp_44 (m2 := rowU) rfl (fun H locs hP hS => ?_)
  refine lv_astore_n (lv' := [(3, .ref q), (0, .ref (adh 0)), (1, .int x1), (2, .int x2)]) hx hb dL_addsUp_45 rfl hl (by decide) rfl (fun ls hl => ?_)
  have hAd2 : ∀ a0_ b0_ a1_ b1_ a2_ b2_ : MM, (Wf a0_ a1_ ++ auW cs q (a2_.1 0)).map (fun q => q.1) = (Wf b0_ b1_ ++ auW cs q (b2_.1 0)).map (fun q => q.1) := fun a0_ b0_ a1_ b1_ a2_ b2_ => by
    rw [List.map_append, List.map_append, hAd a0_ b0_ a1_ b1_]
    rfl
  have hD2 : ∀ w1 : va_W, w1.map (fun q => q.1) = (Wf h m ++ auW cs q (rowU.1 0)).map (fun q => q.1) → va_D A w1 := fun w1 e1 => hD.map (e1.trans (hAd2 h h m m rowU rowU0))
  have hA2 : ∀ (w1 : va_W) (z : Nat), w1.map (fun q => q.1) = (Wf h m ++ auW cs q (rowU.1 0)).map (fun q => q.1) → s.heap.size ≤ z → ∀ q : Nat, va_A w1 z q → A q := fun w1 z e1 hz q hq => by
    rcases hq with ⟨k, y, hk⟩ | hq
    · exact (hD2 w1 e1).2 k _ hk
    · exact hA q (Nat.le_trans hz hq)
  refine w_addsB l (adu := fun _ => q) (Wf := fun z0 z1 z2 => Wf z0 z1 ++ auW cs q (z2.1 0)) (Nat.le_of_ble_eq_true rfl) (Nat.le_of_ble_eq_true rfl) (fun z1 z2 => (hLh z1).app _) (fun z0 z2 => (hL z0).app _) (fun z0 z1 => Ln.one (Wf z0 z1) q) hAd2 hm1 x1 x2 h m rowU Fl0 hD2 hA2 ⟨Nat.le_of_ble_eq_true rfl, Nat.le_of_ble_eq_true rfl⟩ hDB (fun pc H locs ls hd hP hS => ?_) _ _ _ hP hS (lv_sub hl [1, 2, 3, 0] rfl)
  exact hret _ _ _ _ _ _ _ ⟨rfl, _, rfl⟩ hP (hD.map (hAd2 h h m m u' rowU0)) hS (Nat.le_of_ble_eq_true rfl) (Nat.le_of_ble_eq_true rfl) (fun Qc hq => W.zret hx hb hr rfl hq hS.2.2 hd hlocks)
