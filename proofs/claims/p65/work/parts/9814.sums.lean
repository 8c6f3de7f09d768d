/-! PROPERTY: what adds up, as the calls tell it -/
/-- spots: filled bits, spindles, times; what is open and not blocked -/
theorem spots_f {m : MM} {w : Nat → Int32} (h : R m w) {k : Nat} (hk : k < nP w) : (tb (gl m 36 8) k = true ↔ w (240 + 6 * k + 3) = 1) := by
  have := h.r0.vc.2.2.2.2.1
  rw [h.r0.fl' (by omega)]
  exact ⟨fun z => z.2, fun z => ⟨hk, z⟩⟩
/-- the spindles that hold a part are those that hold one of a kind -/
theorem held_sum {w : Nat → Int32} (hv : V w) (K : Nat) (hK : nK w = K) (hK8 : K ≤ 8) : ∀ n : Nat, n ≤ nS w → cntP (fun s => decide (w (58 + 8 * s + 1) ≠ -1)) n = (List.range K).foldl (fun a k => a + cntP (heldP w (I k)) n) 0 := by
  have fold : ∀ (l : List Nat) (f g : Nat → Nat) (a b : Nat), l.foldl (fun x k => x + (f k + g k)) (a + b) = l.foldl (fun x k => x + f k) a + l.foldl (fun x k => x + g k) b := by
    intro l
    induction l with
    | nil => intro f g a b; rfl
    | cons x l ih =>
      intro f g a b
      show l.foldl _ (a + b + (f x + g x)) = l.foldl _ (a + f x) + l.foldl _ (b + g x)
      rw [← ih]
      congr 1
      omega
  have zero : ∀ (l : List Nat) (f : Nat → Nat) (a : Nat), (∀ k : Nat, k ∈ l → f k = 0) → l.foldl (fun x k => x + f k) a = a := by
    intro l
    induction l with
    | nil => intro f a _; rfl
    | cons x l ih =>
      intro f a h
      show l.foldl _ (a + f x) = a
      rw [h x List.mem_cons_self, Nat.add_zero]
      exact ih f a (fun k hk => h k (List.mem_cons_of_mem _ hk))
  have one : ∀ (M k0 : Nat) (a : Nat), k0 < M → (List.range M).foldl (fun x k => x + (if k = k0 then 1 else 0)) a = a + 1 := by
    intro M
    induction M with
    | zero => intro k0 a h; omega
    | succ M ih =>
      intro k0 a h
      rw [List.range_succ, List.foldl_append]
      show (List.range M).foldl _ a + (if M = k0 then 1 else 0) = a + 1
      by_cases c : M = k0
      · subst c
        rw [if_pos rfl, zero (List.range M) (fun k => if k = M then 1 else 0) a (fun k hk => if_neg (by have := List.mem_range.mp hk; omega))]
      · rw [if_neg c, ih k0 a (by omega)]
  intro n
  induction n with
  | zero =>
    intro _
    show 0 = (List.range K).foldl (fun a k => a + 0) 0
    rw [zero (List.range K) (fun _ => 0) 0 (fun _ _ => rfl)]
  | succ n ih =>
    intro hn
    have e : ∀ k : Nat, cntP (heldP w (I k)) (n + 1) = cntP (heldP w (I k)) n + (if heldP w (I k) n = true then 1 else 0) := fun k => rfl
    have eL : cntP (fun s => decide (w (58 + 8 * s + 1) ≠ -1)) (n + 1) = cntP (fun s => decide (w (58 + 8 * s + 1) ≠ -1)) n + (if decide (w (58 + 8 * n + 1) ≠ -1) = true then 1 else 0) := rfl
    rw [eL, ih (by omega)]
    have eR : (List.range K).foldl (fun a k => a + cntP (heldP w (I k)) (n + 1)) 0 = (List.range K).foldl (fun a k => a + (cntP (heldP w (I k)) n + (if heldP w (I k) n = true then 1 else 0))) (0 + 0) := rfl
    rw [eR, fold (List.range K) (fun k => cntP (heldP w (I k)) n) (fun k => if heldP w (I k) n = true then 1 else 0) 0 0]
    congr 1
    rcases (hv.sp n (by omega)).2.1 with q | ⟨k0, hk0, q⟩
    · have q : w (58 + 8 * n + 1) = -1 := q
      rw [if_neg (by rw [decide_eq_true_eq]; exact fun z => z q)]
      exact (zero (List.range K) (fun k => if heldP w (I k) n = true then 1 else 0) 0 (fun k hk => if_neg (by
        have := List.mem_range.mp hk
        show ¬ decide (w (58 + 8 * n + 1) = I k) = true
        rw [decide_eq_true_eq, q]
        exact fun z => I_ne_neg (by omega) z.symm))).symm
    · have q : w (58 + 8 * n + 1) = I k0 := q
      rw [if_pos (by rw [decide_eq_true_eq, q]; exact I_ne_neg (by omega))]
      have ee : (fun (x k : Nat) => x + (if heldP w (I k) n = true then 1 else 0)) = (fun (x k : Nat) => x + (if decide (I k0 = I k) = true then 1 else 0)) := by
        funext x k
        show x + (if decide (w (58 + 8 * n + 1) = I k) = true then 1 else 0) = _
        rw [q]
      rw [ee]
      have e2 : (List.range K).foldl (fun (x k : Nat) => x + (if decide (I k0 = I k) = true then 1 else 0)) 0 = (List.range K).foldl (fun (x k : Nat) => x + (if k = k0 then 1 else 0)) 0 := by
        have gen : ∀ (l : List Nat) (a : Nat), (∀ k : Nat, k ∈ l → k < 8) → l.foldl (fun (x k : Nat) => x + (if decide (I k0 = I k) = true then 1 else 0)) a = l.foldl (fun (x k : Nat) => x + (if k = k0 then 1 else 0)) a := by
          intro l
          induction l with
          | nil => intro a _; rfl
          | cons y l ih2 =>
            intro a hl
            have hy := hl y List.mem_cons_self
            have ey : (if decide (I k0 = I y) = true then 1 else 0) = (if y = k0 then 1 else 0) := by
              by_cases c : y = k0
              · subst c
                rw [if_pos rfl, if_pos (decide_eq_true rfl)]
              · rw [if_neg c, if_neg (by rw [decide_eq_true_eq]; exact fun z => c ((I_inj (by omega) (by omega)).mp z).symm)]
            show l.foldl _ (a + (if decide (I k0 = I y) = true then 1 else 0)) = l.foldl _ (a + (if y = k0 then 1 else 0))
            rw [ey]
            exact ih2 _ (fun k hk => hl k (List.mem_cons_of_mem _ hk))
        exact gen (List.range K) 0 (fun k hk => by have := List.mem_range.mp hk; omega)
      rw [e2, one K k0 0 (by omega)]
