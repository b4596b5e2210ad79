/-! ===== the tree of cuts ===== -/
/-- the least of i .. i + n - 1 of which P holds; -5: none -/
noncomputable def lst (P : Int → Prop) : Nat → Int → Int
  | 0, _ => -5
  | n + 1, i => @ite Int (P i) (Classical.propDecidable _) i (lst P n (i + 1))
theorem lst_p {P : Int → Prop} {n : Nat} {i : Int} (h : P i) : lst P (n + 1) i = i := @if_pos _ (Classical.propDecidable _) h _ _ _
theorem lst_n {P : Int → Prop} {n : Nat} {i : Int} (h : ¬ P i) : lst P (n + 1) i = lst P n (i + 1) := @if_neg _ (Classical.propDecidable _) h _ _ _
theorem lst_o {P : Int → Prop} : ∀ (n : Nat) (i : Int), 0 ≤ i → (lst P n i = -5 ∧ ∀ j, i ≤ j → j < i + n → ¬ P j) ∨ (i ≤ lst P n i ∧ lst P n i < i + n ∧ P (lst P n i) ∧ ∀ j, i ≤ j → j < lst P n i → ¬ P j)
  | 0, i, _ => Or.inl ⟨rfl, fun j h1 h2 => by omega⟩
  | n + 1, i, hi => by
    by_cases h : P i
    · rw [lst_p h]
      exact Or.inr ⟨by omega, by omega, h, fun j h1 h2 => by omega⟩
    · rw [lst_n h]
      rcases lst_o n (i + 1) (by omega) with ⟨h1, h2⟩ | ⟨h1, h2, h3, h4⟩
      · refine Or.inl ⟨h1, fun j a1 a2 => ?_⟩
        by_cases e : j = i
        · rw [e]; exact h
        · exact h2 j (by omega) (by omega)
      · refine Or.inr ⟨by omega, by omega, h3, fun j a1 a2 => ?_⟩
        by_cases e : j = i
        · rw [e]; exact h
        · exact h4 j (by omega) a2
/-- none ahead of k: the least one is k, if it holds there -/
theorem lst_at {P : Int → Prop} : ∀ (n : Nat) (i k : Int), i ≤ k → k < i + n → (∀ j, i ≤ j → j < k → ¬ P j) → P k → lst P n i = k
  | 0, i, k, h1, h2, _, _ => by omega
  | n + 1, i, k, h1, h2, h3, h4 => by
    by_cases e : i = k
    · subst e
      exact lst_p h4
    · rw [lst_n (h3 i (by omega) (by omega))]
      exact lst_at n (i + 1) k (by omega) (by omega) (fun j a1 a2 => h3 j (by omega) a2) h4
theorem lst_no {P : Int → Prop} : ∀ (n : Nat) (i : Int), (∀ j, i ≤ j → j < i + n → ¬ P j) → lst P n i = -5
  | 0, i, _ => rfl
  | n + 1, i, h => by
    rw [lst_n (h i (by omega) (by omega))]
    exact lst_no n (i + 1) (fun j a1 a2 => h j (by omega) (by omega))
/-- the part that a piece of its best worth is; where it is cut -/
abbrev PtP (a : Nat → Int) (x y w h b p : Int) : Prop := Clr a x y w h ∧ Fit a p w h ∧ a (14 + p).toNat = b
noncomputable def PT (a : Nat → Int) (x y w h b : Int) : Int := lst (PtP a x y w h b) (a 3).toNat 0
noncomputable def KC (a : Nat → Int) (way x y w h : Int) : Int := lst (fun k => cutv (Bs a) (a 2) way x y w h k = Bs a x y w h) (if way = 0 then (w - 1).toNat else (h - 1).toNat) 1
/-- the nodes from number i on: kind, x, y, wide, high, number, from, best -/
noncomputable def tr (a : Nat → Int) : Nat → Int → Int → Int → Int → Int → Int → List (List Int)
  | 0, _, _, _, _, _, _ => []
  | n + 1, i, fr, x, y, w, h =>
    if Bs a x y w h = 0 then [[0, x, y, w, h, -5, fr, Bs a x y w h]]
    else if ¬ PT a x y w h (Bs a x y w h) = -5 then [[1, x, y, w, h, PT a x y w h (Bs a x y w h), fr, Bs a x y w h]]
    else if ¬ KC a 0 x y w h = -5 then
      [2, x, y, w, h, KC a 0 x y w h, fr, Bs a x y w h] :: (tr a n (i + 1) i x y (KC a 0 x y w h) h ++
        (if 0 < w - KC a 0 x y w h - a 2 then tr a n (i + 1 + (tr a n (i + 1) i x y (KC a 0 x y w h) h).length) i (x + KC a 0 x y w h + a 2) y (w - KC a 0 x y w h - a 2) h else []))
    else
      [3, x, y, w, h, KC a 1 x y w h, fr, Bs a x y w h] :: (tr a n (i + 1) i x y w (KC a 1 x y w h) ++
        (if 0 < h - KC a 1 x y w h - a 2 then tr a n (i + 1 + (tr a n (i + 1) i x y w (KC a 1 x y w h)).length) i x (y + KC a 1 x y w h + a 2) w (h - KC a 1 x y w h - a 2) else []))
theorem KC_o {a : Nat → Int} {way x y w h : Int} (hway : way = 0 ∨ way = 1) : KC a way x y w h = -5 ∨ (1 ≤ KC a way x y w h ∧ (way = 0 → KC a way x y w h < w) ∧ (way = 1 → KC a way x y w h < h) ∧ cutv (Bs a) (a 2) way x y w h (KC a way x y w h) = Bs a x y w h) := by
  unfold KC
  rcases lst_o (P := fun k => cutv (Bs a) (a 2) way x y w h k = Bs a x y w h) (if way = 0 then (w - 1).toNat else (h - 1).toNat) 1 (by omega) with h1 | ⟨h1, h2, h3, h4⟩
  · exact Or.inl h1.1
  · refine Or.inr ⟨h1, fun e => ?_, fun e => ?_, h3⟩
    · subst e
      rw [if_pos rfl] at h1 h2 ⊢
      omega
    · subst e
      rw [if_neg (by omega)] at h1 h2 ⊢
      omega
/-- a piece that is worth something, and no part, is cut -/
theorem KC_some {a : Nat → Int} (hW : WF a) {x y w h : Int} (hw : 1 ≤ w) (hh : 1 ≤ h) (hb : ¬ Bs a x y w h = 0) (hp : PT a x y w h (Bs a x y w h) = -5) (h0 : KC a 0 x y w h = -5) : ¬ KC a 1 x y w h = -5 := by
  intro h1
  have n0 : ∀ k : Int, 1 ≤ k → k ≤ (w - 1).toNat → ¬ cutv (Bs a) (a 2) 0 x y w h k = Bs a x y w h := by
    unfold KC at h0
    rw [if_pos rfl] at h0
    rcases lst_o (P := fun k => cutv (Bs a) (a 2) 0 x y w h k = Bs a x y w h) (w - 1).toNat 1 (by omega) with g | g
    · exact fun k a1 a2 => g.2 k a1 (by omega)
    · omega
  have n1 : ∀ k : Int, 1 ≤ k → k ≤ (h - 1).toNat → ¬ cutv (Bs a) (a 2) 1 x y w h k = Bs a x y w h := by
    unfold KC at h1
    rw [if_neg (by omega)] at h1
    rcases lst_o (P := fun k => cutv (Bs a) (a 2) 1 x y w h k = Bs a x y w h) (h - 1).toNat 1 (by omega) with g | g
    · exact fun k a1 a2 => g.2 k a1 (by omega)
    · omega
  have e : Bs a x y w h = maxk (h - 1).toNat (cutv (Bs a) (a 2) 1 x y w h) (maxk (w - 1).toNat (cutv (Bs a) (a 2) 0 x y w h) (Pln a x y w h)) := Bs_eq hW hw hh
  have e2 : Bs a x y w h = Pln a x y w h := by
    rcases maxk_or (cutv (Bs a) (a 2) 1 x y w h) (h - 1).toNat (maxk (w - 1).toNat (cutv (Bs a) (a 2) 0 x y w h) (Pln a x y w h)) with g | ⟨k, a1, a2, a3⟩
    · rw [g] at e
      rcases maxk_or (cutv (Bs a) (a 2) 0 x y w h) (w - 1).toNat (Pln a x y w h) with g2 | ⟨k, a1, a2, a3⟩
      · rw [g2] at e; exact e
      · exact absurd (by rw [← a3, ← e]) (n0 k a1 a2)
    · exact absurd (by rw [← a3, ← e]) (n1 k a1 a2)
  by_cases hc : Clr a x y w h
  · have key : ∀ n : Nat, (n : Int) ≤ a 3 → plv a w h n = 0 ∨ ∃ p : Int, 0 ≤ p ∧ p < n ∧ Fit a p w h ∧ a (14 + p).toNat = plv a w h n := by
      intro n
      induction n with
      | zero => exact fun _ => Or.inl rfl
      | succ n ih =>
        intro hn
        have ih := ih (by omega)
        have hs := plv_s (a := a) (w := w) (h := h) (p := n) (by omega)
        rw [show ((n : Int) + 1).toNat = n + 1 by omega, show (n : Int).toNat = n by omega] at hs
        rw [hs]
        split
        next hf =>
          by_cases hm : plv a w h n ≤ a (14 + (n : Int)).toNat
          · refine Or.inr ⟨n, by omega, by omega, hf, by omega⟩
          · rcases ih with ih | ⟨p, b1, b2, b3, b4⟩
            · have := (hW.2.2.2.2.1 n (by omega) (by omega)).2.2.1
              omega
            · exact Or.inr ⟨p, b1, by omega, b3, by omega⟩
        next =>
          rcases ih with ih | ⟨p, b1, b2, b3, b4⟩
          · exact Or.inl ih
          · exact Or.inr ⟨p, b1, by omega, b3, b4⟩
    have h3 := hW.2.2.2.1
    rw [Pln_c hc] at e2
    rcases key (a 3).toNat (by omega) with g | ⟨p, b1, b2, b3, b4⟩
    · exact hb (by rw [e2, g])
    · unfold PT at hp
      rcases lst_o (P := PtP a x y w h (Bs a x y w h)) (a 3).toNat 0 (by omega) with g | g
      · exact g.2 p b1 (by omega) ⟨hc, b3, by rw [b4, e2]⟩
      · omega
  · rw [Pln_n hc] at e2
    exact hb e2
theorem PT_o {a : Nat → Int} (hW : WF a) {x y w h b : Int} : PT a x y w h b = -5 ∨ (0 ≤ PT a x y w h b ∧ PT a x y w h b < a 3 ∧ PtP a x y w h b (PT a x y w h b)) := by
  have h3 := hW.2.2.2.1
  unfold PT
  rcases lst_o (P := PtP a x y w h b) (a 3).toNat 0 (by omega) with g | g
  · exact Or.inl g.1
  · exact Or.inr ⟨by omega, by omega, g.2.2.1⟩
/-- no more nodes than twice the squares, less one -/
theorem tr_len {a : Nat → Int} (hW : WF a) : ∀ (n : Nat) (i fr x y w h : Int), 1 ≤ w → 1 ≤ h → ((tr a n i fr x y w h).length : Int) ≤ 2 * (w * h) - 1
  | 0, i, fr, x, y, w, h, h1, h2 => by
    have := mul_1 h1 h2
    show ((0 : Nat) : Int) ≤ _
    omega
  | n + 1, i, fr, x, y, w, h, h1, h2 => by
    have hm := mul_1 h1 h2
    have hK := hW.2.2.1.1
    rw [tr]
    split
    · show ((1 : Nat) : Int) ≤ _
      omega
    next hb =>
      split
      · show ((1 : Nat) : Int) ≤ _
        omega
      next hp =>
        split
        next hk =>
          rcases KC_o (a := a) (x := x) (y := y) (w := w) (h := h) (Or.inl rfl) with g | ⟨g1, g2, -, -⟩
          · exact absurd g hk
          have g2 := g2 rfl
          generalize KC a 0 x y w h = k at g1 g2 ⊢
          have l1 := tr_len hW n (i + 1) i x y k h g1 h2
          have c1 : (k + 1) * h ≤ w * h := Int.mul_le_mul_of_nonneg_right (by omega) (by omega)
          rw [Int.add_mul] at c1
          rw [List.length_cons, List.length_append]
          split
          · have l2 := tr_len hW n (i + 1 + (tr a n (i + 1) i x y k h).length) i (x + k + a 2) y (w - k - a 2) h (by omega) h2
            have c2 := cut_b (k := k) (w := w) (K := a 2) hK (show 0 ≤ h by omega)
            omega
          · rw [List.length_nil]
            omega
        next hk =>
          rcases KC_o (a := a) (x := x) (y := y) (w := w) (h := h) (Or.inr rfl) with g | ⟨g1, -, g2, -⟩
          · exact absurd g (KC_some hW h1 h2 hb (Decidable.not_not.mp hp) (Decidable.not_not.mp hk))
          have g2 := g2 rfl
          generalize KC a 1 x y w h = k at g1 g2 ⊢
          have l1 := tr_len hW n (i + 1) i x y w k h1 g1
          have c1 : w * (k + 1) ≤ w * h := Int.mul_le_mul_of_nonneg_left (by omega) (by omega)
          rw [Int.mul_add] at c1
          rw [List.length_cons, List.length_append]
          split
          · have l2 := tr_len hW n (i + 1 + (tr a n (i + 1) i x y w k).length) i x (y + k + a 2) w (h - k - a 2) h1 (by omega)
            have c2 := cut_b (k := k) (w := h) (K := a 2) hK (show 0 ≤ w by omega)
            rw [Int.mul_comm k w, Int.mul_comm (h - k - a 2) w, Int.mul_comm h w] at c2
            omega
          · rw [List.length_nil]
            omega
/-! ===== the nodes in a row of numbers ===== -/
def nd (l : List (List Int)) (j q : Nat) : Int := (l.getD j []).getD q 0
def Nds (f : Nat → Int) (i : Int) (l : List (List Int)) : Prop := ∀ j q : Nat, j < l.length → q < 8 → f (8 * i + 8 * j + q).toNat = nd l j q
/-- what stood ahead of node i stays -/
def Kep (f g : Nat → Int) (i : Int) : Prop := ∀ j : Int, 0 ≤ j → j < 8 * i → g j.toNat = f j.toNat
theorem Kep_t {f g k : Nat → Int} {i i' : Int} (h1 : Kep f g i) (h2 : Kep g k i') (hi : i ≤ i') : Kep f k i := fun j a b => (h2 j a (by omega)).trans (h1 j a b)
theorem Nds_k {f g : Nat → Int} {i i' : Int} {l : List (List Int)} (hn : Nds f i l) (hk : Kep f g i') (hi : 0 ≤ i) (h : i + l.length ≤ i') : Nds g i l := fun j q a b => (hk (8 * i + 8 * j + q) (by omega) (by omega)).trans (hn j q a b)
theorem Nds_1 {f : Nat → Int} {i v0 v1 v2 v3 v4 v5 v6 v7 : Int} (h0 : f (8 * i).toNat = v0) (h1 : f (8 * i + 1).toNat = v1) (h2 : f (8 * i + 2).toNat = v2) (h3 : f (8 * i + 3).toNat = v3) (h4 : f (8 * i + 4).toNat = v4) (h5 : f (8 * i + 5).toNat = v5) (h6 : f (8 * i + 6).toNat = v6) (h7 : f (8 * i + 7).toNat = v7) : Nds f i [[v0, v1, v2, v3, v4, v5, v6, v7]] := by
  intro j q a b
  have : j = 0 := by simp at a; exact a
  subst this
  match q, b with
  | 0, _ => simpa [nd] using h0
  | 1, _ => simpa [nd] using h1
  | 2, _ => simpa [nd] using h2
  | 3, _ => simpa [nd] using h3
  | 4, _ => simpa [nd] using h4
  | 5, _ => simpa [nd] using h5
  | 6, _ => simpa [nd] using h6
  | 7, _ => simpa [nd] using h7
  | n + 8, h => omega
theorem Nds_app {f : Nat → Int} {i : Int} {l1 l2 : List (List Int)} (h1 : Nds f i l1) (h2 : Nds f (i + l1.length) l2) : Nds f i (l1 ++ l2) := by
  intro j q a b
  by_cases hj : j < l1.length
  · have e : nd (l1 ++ l2) j q = nd l1 j q := by
      simp only [nd, List.getD_eq_getElem?_getD, List.getElem?_append_left hj]
    rw [e]
    exact h1 j q hj b
  · have e : nd (l1 ++ l2) j q = nd l2 (j - l1.length) q := by
      simp only [nd, List.getD_eq_getElem?_getD, List.getElem?_append_right (show l1.length ≤ j by omega)]
    rw [e, ← h2 (j - l1.length) q (by rw [List.length_append] at a; omega) b]
    congr 1
    omega
theorem Nds_cons {f : Nat → Int} {i : Int} {n : List Int} {l : List (List Int)} (h1 : Nds f i [n]) (h2 : Nds f (i + 1) l) : Nds f i (n :: l) := Nds_app (l1 := [n]) h1 h2
theorem Nds_nil {f : Nat → Int} {i : Int} : Nds f i [] := fun j q a => by simp at a
