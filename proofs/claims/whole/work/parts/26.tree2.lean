/-! ===== the tree: what its nodes are ===== -/
theorem tr_cases {a : Nat → Int} (hW : WF a) {n : Nat} {i fr x y w h : Int} (hw : 1 ≤ w) (hh : 1 ≤ h) :
    (Bs a x y w h = 0 ∧ tr a (n + 1) i fr x y w h = [[0, x, y, w, h, -5, fr, Bs a x y w h]]) ∨
    (¬ Bs a x y w h = 0 ∧ ∃ p, 0 ≤ p ∧ p < a 3 ∧ PtP a x y w h (Bs a x y w h) p ∧ PT a x y w h (Bs a x y w h) = p ∧ tr a (n + 1) i fr x y w h = [[1, x, y, w, h, p, fr, Bs a x y w h]]) ∨
    (¬ Bs a x y w h = 0 ∧ PT a x y w h (Bs a x y w h) = -5 ∧ ∃ k, 1 ≤ k ∧ k < w ∧ KC a 0 x y w h = k ∧ tr a (n + 1) i fr x y w h = [2, x, y, w, h, k, fr, Bs a x y w h] :: (tr a n (i + 1) i x y k h ++ (if 0 < w - k - a 2 then tr a n (i + 1 + (tr a n (i + 1) i x y k h).length) i (x + k + a 2) y (w - k - a 2) h else []))) ∨
    (¬ Bs a x y w h = 0 ∧ PT a x y w h (Bs a x y w h) = -5 ∧ KC a 0 x y w h = -5 ∧ ∃ k, 1 ≤ k ∧ k < h ∧ KC a 1 x y w h = k ∧ tr a (n + 1) i fr x y w h = [3, x, y, w, h, k, fr, Bs a x y w h] :: (tr a n (i + 1) i x y w k ++ (if 0 < h - k - a 2 then tr a n (i + 1 + (tr a n (i + 1) i x y w k).length) i x (y + k + a 2) w (h - k - a 2) else []))) := by
  by_cases hb : Bs a x y w h = 0
  · exact Or.inl ⟨hb, by rw [tr, if_pos hb]⟩
  refine Or.inr ?_
  by_cases hp : PT a x y w h (Bs a x y w h) = -5
  · refine Or.inr ?_
    by_cases h0 : KC a 0 x y w h = -5
    · refine Or.inr ⟨hb, hp, h0, KC a 1 x y w h, ?_⟩
      rcases KC_o (a := a) (x := x) (y := y) (w := w) (h := h) (way := 1) (Or.inr rfl) with g | ⟨g1, -, g2, -⟩
      · exact absurd g (KC_some hW hw hh hb hp h0)
      · exact ⟨g1, g2 rfl, rfl, by rw [tr, if_neg hb, if_neg (Decidable.not_not.mpr hp), if_neg (Decidable.not_not.mpr h0)]⟩
    · refine Or.inl ⟨hb, hp, KC a 0 x y w h, ?_⟩
      rcases KC_o (a := a) (x := x) (y := y) (w := w) (h := h) (way := 0) (Or.inl rfl) with g | ⟨g1, g2, -, -⟩
      · exact absurd g h0
      · exact ⟨g1, g2 rfl, rfl, by rw [tr, if_neg hb, if_neg (Decidable.not_not.mpr hp), if_pos h0]⟩
  · refine Or.inl ⟨hb, PT a x y w h (Bs a x y w h), ?_⟩
    rcases PT_o hW (x := x) (y := y) (w := w) (h := h) (b := Bs a x y w h) with g | ⟨g1, g2, g3⟩
    · exact absurd g hp
    · exact ⟨g1, g2, g3, rfl, by rw [tr, if_neg hb, if_pos hp]⟩
/-- a node of a piece's tree: its numbers are in their bounds -/
def NdOK (a : Nat → Int) (x y w h : Int) (v : List Int) : Prop := ∃ k x' y' w' h' nu f b : Int, v = [k, x', y', w', h', nu, f, b] ∧ (0 ≤ k ∧ k ≤ 3) ∧ x ≤ x' ∧ y ≤ y' ∧ 1 ≤ w' ∧ 1 ≤ h' ∧ x' + w' ≤ x + w ∧ y' + h' ≤ y + h ∧ (-5 ≤ nu ∧ nu ≤ 7) ∧ (-5 ≤ f ∧ f ≤ 200) ∧ (0 ≤ b ∧ b ≤ 4851) ∧ (k = 1 → 0 ≤ nu ∧ nu < a 3)
theorem NdOK_m {a : Nat → Int} {x y w h x2 y2 w2 h2 : Int} {v : List Int} (hv : NdOK a x y w h v) (g1 : x2 ≤ x) (g2 : y2 ≤ y) (g3 : x + w ≤ x2 + w2) (g4 : y + h ≤ y2 + h2) : NdOK a x2 y2 w2 h2 v := by
  obtain ⟨k, x', y', w', h', nu, f, b, e, a1, a2, a3, a4, a5, a6, a7, a8, a9, a10, a11⟩ := hv
  exact ⟨k, x', y', w', h', nu, f, b, e, a1, by omega, by omega, a4, a5, by omega, by omega, a8, a9, a10, a11⟩
theorem tr_ok {a : Nat → Int} (hW : WF a) : ∀ (n : Nat) (i fr x y w h : Int), 0 ≤ x → 0 ≤ y → 1 ≤ w → 1 ≤ h → x + w ≤ a 0 → y + h ≤ a 1 → w + h ≤ n → 0 ≤ i → i + 2 * (w * h) ≤ 128 → -5 ≤ fr → fr ≤ 128 → ∀ v ∈ tr a n i fr x y w h, NdOK a x y w h v := by
  have b0 := hW.1
  have b1 := hW.2.1
  have b3 := hW.2.2.2.1
  have bK := hW.2.2.1
  intro n
  induction n with
  | zero => intro i fr x y w h _ _ _ _ _ _ hn; omega
  | succ n ih =>
    intro i fr x y w h hx hy hw hh hxw hyh hn hi hlen hf1 hf2 v hv
    have hB := Bs_b hW (x := x) (y := y) hw (show w ≤ 7 by omega) hh (show h ≤ 7 by omega)
    have hsq := mul_1 hw hh
    rcases tr_cases hW (n := n) (i := i) (fr := fr) (x := x) (y := y) hw hh with ⟨e1, e⟩ | ⟨e1, p, p1, p2, p3, p5, e⟩ | ⟨e1, e2, k, k1, k2, k3, e⟩ | ⟨e1, e2, e3, k, k1, k2, k3, e⟩
    · rw [e, List.mem_singleton] at hv
      exact ⟨_, _, _, _, _, _, _, _, hv, by omega, by omega, by omega, hw, hh, by omega, by omega, by omega, by omega, hB, by omega⟩
    · rw [e, List.mem_singleton] at hv
      exact ⟨_, _, _, _, _, _, _, _, hv, by omega, by omega, by omega, hw, hh, by omega, by omega, by omega, by omega, hB, by omega⟩
    · rw [e, List.mem_cons, List.mem_append] at hv
      have c1 : (k + 1) * h ≤ w * h := Int.mul_le_mul_of_nonneg_right (by omega) (by omega)
      rw [Int.add_mul] at c1
      have l1 := tr_len hW n (i + 1) i x y k h k1 hh
      have c2 := cut_b (k := k) (w := w) (K := a 2) bK.1 (show 0 ≤ h by omega)
      rcases hv with hv | hv | hv
      · exact ⟨_, _, _, _, _, _, _, _, hv, by omega, by omega, by omega, hw, hh, by omega, by omega, by omega, by omega, hB, by omega⟩
      · exact NdOK_m (ih (i + 1) i x y k h hx hy k1 hh (by omega) hyh (by omega) (by omega) (by omega) (by omega) (by omega) v hv) (by omega) (by omega) (by omega) (by omega)
      · split at hv
        · exact NdOK_m (ih _ i (x + k + a 2) y (w - k - a 2) h (by omega) hy (by omega) hh (by omega) hyh (by omega) (by omega) (by omega) (by omega) (by omega) v hv) (by omega) (by omega) (by omega) (by omega)
        · cases hv
    · rw [e, List.mem_cons, List.mem_append] at hv
      have c1 : w * (k + 1) ≤ w * h := Int.mul_le_mul_of_nonneg_left (by omega) (by omega)
      rw [Int.mul_add] at c1
      have l1 := tr_len hW n (i + 1) i x y w k hw k1
      have c2 := cut_b (k := k) (w := h) (K := a 2) bK.1 (show 0 ≤ w by omega)
      rw [Int.mul_comm k w, Int.mul_comm (h - k - a 2) w, Int.mul_comm h w] at c2
      rcases hv with hv | hv | hv
      · exact ⟨_, _, _, _, _, _, _, _, hv, by omega, by omega, by omega, hw, hh, by omega, by omega, by omega, by omega, hB, by omega⟩
      · exact NdOK_m (ih (i + 1) i x y w k hx hy hw k1 hxw (by omega) (by omega) (by omega) (by omega) (by omega) (by omega) v hv) (by omega) (by omega) (by omega) (by omega)
      · split at hv
        · exact NdOK_m (ih _ i x (y + k + a 2) w (h - k - a 2) hx (by omega) hw (by omega) hxw (by omega) (by omega) (by omega) (by omega) (by omega) (by omega) v hv) (by omega) (by omega) (by omega) (by omega)
        · cases hv
/-- the whole plate's tree -/
noncomputable def TR (a : Nat → Int) : List (List Int) := tr a 14 0 (-5) 0 0 (a 0) (a 1)
theorem TR_len {a : Nat → Int} (hW : WF a) : (1 : Int) ≤ (TR a).length ∧ ((TR a).length : Int) ≤ 97 := by
  have b0 := hW.1
  have b1 := hW.2.1
  have l := tr_len hW 14 0 (-5) 0 0 (a 0) (a 1) b0.1 b1.1
  have m := mul_b b0.1 b0.2 b1.1 b1.2
  refine ⟨?_, by unfold TR; omega⟩
  unfold TR
  rcases tr_cases hW (n := 13) (i := 0) (fr := -5) (x := 0) (y := 0) b0.1 b1.1 with ⟨e1, e⟩ | ⟨e1, p, p1, p2, p3, p5, e⟩ | ⟨e1, e2, k, k1, k2, k3, e⟩ | ⟨e1, e2, e3, k, k1, k2, k3, e⟩ <;> rw [e] <;> simp <;> omega
theorem TR_ok {a : Nat → Int} (hW : WF a) : ∀ v ∈ TR a, NdOK a 0 0 (a 0) (a 1) v := by
  have b0 := hW.1
  have b1 := hW.2.1
  have m := mul_b b0.1 b0.2 b1.1 b1.2
  exact tr_ok hW 14 0 (-5) 0 0 (a 0) (a 1) (by omega) (by omega) (by omega) (by omega) (by omega) (by omega) (by omega) (by omega) (by omega) (by omega) (by omega)
/-- node j's number q, of a place that is an Int -/
theorem Nds_z {f : Nat → Int} {l : List (List Int)} (h : Nds f 0 l) {j : Int} (h0 : 0 ≤ j) (h1 : j < l.length) (q : Nat) (hq : q < 8) : f (8 * j + (q : Int)).toNat = nd l j.toNat q := by
  rw [← h j.toNat q (by omega) hq]
  congr 1
  omega
theorem nd_ok {a : Nat → Int} {l : List (List Int)} {x y w h : Int} (hl : ∀ v ∈ l, NdOK a x y w h v) {j : Int} (h0 : 0 ≤ j) (h1 : j < l.length) : (0 ≤ nd l j.toNat 0 ∧ nd l j.toNat 0 ≤ 3) ∧ (x ≤ nd l j.toNat 1 ∧ y ≤ nd l j.toNat 2 ∧ 1 ≤ nd l j.toNat 3 ∧ 1 ≤ nd l j.toNat 4 ∧ nd l j.toNat 1 + nd l j.toNat 3 ≤ x + w ∧ nd l j.toNat 2 + nd l j.toNat 4 ≤ y + h) ∧ (-5 ≤ nd l j.toNat 5 ∧ nd l j.toNat 5 ≤ 7) ∧ (-5 ≤ nd l j.toNat 6 ∧ nd l j.toNat 6 ≤ 200) ∧ (0 ≤ nd l j.toNat 7 ∧ nd l j.toNat 7 ≤ 4851) ∧ (nd l j.toNat 0 = 1 → 0 ≤ nd l j.toNat 5 ∧ nd l j.toNat 5 < a 3) := by
  have hj : j.toNat < l.length := by omega
  obtain ⟨k, x', y', w', h', nu, f, b, e, a1, a2, a3, a4, a5, a6, a7, a8, a9, a10, a11⟩ := hl _ (List.getElem_mem hj)
  have g : ∀ q, nd l j.toNat q = [k, x', y', w', h', nu, f, b].getD q 0 := by
    intro q
    unfold nd
    rw [List.getD_eq_getElem?_getD (l := l), List.getElem?_eq_getElem hj, ← e]
    rfl
  rw [g 0, g 1, g 2, g 3, g 4, g 5, g 6, g 7]
  exact ⟨a1, ⟨a2, a3, a4, a5, a6, a7⟩, a8, a9, a10, a11⟩
/-- sums over the first n -/
def sumk : Nat → (Int → Int) → Int
  | 0, _ => 0
  | n + 1, g => sumk n g + g n
theorem sumk_s (g : Int → Int) {k : Int} (hk : 0 ≤ k) : sumk (k + 1).toNat g = sumk k.toNat g + g k := by
  obtain ⟨n, rfl⟩ : ∃ n : Nat, k = n := ⟨k.toNat, by omega⟩
  rw [show ((n : Int) + 1).toNat = n + 1 by omega, show (n : Int).toNat = n by omega]
  rfl
theorem sumk_b {g : Int → Int} {B : Int} : ∀ (n : Nat), (∀ k : Int, 0 ≤ k → k < n → 0 ≤ g k ∧ g k ≤ B) → 0 ≤ sumk n g ∧ sumk n g ≤ B * n
  | 0, _ => ⟨Int.le_refl _, by simp [sumk]⟩
  | n + 1, h => by
    have ih := sumk_b n (fun k a b => h k a (by omega))
    have h1 := h n (by omega) (by omega)
    show 0 ≤ sumk n g + g n ∧ sumk n g + g n ≤ B * ((n + 1 : Nat) : Int)
    have e : B * ((n + 1 : Nat) : Int) = B * n + B := by
      rw [Int.natCast_add, Int.mul_add]
      simp
    omega
