/-! ===== what the cuts depend on: the first 73 numbers ===== -/
abbrev Sam (a b : Nat → Int) : Prop := ∀ k : Nat, k < 73 → b k = a k
theorem lst_congr {P Q : Int → Prop} : ∀ (n : Nat) (i : Int), (∀ j, i ≤ j → j < i + n → (P j ↔ Q j)) → lst P n i = lst Q n i
  | 0, _, _ => rfl
  | n + 1, i, h => by
    have ih := lst_congr n (i + 1) (fun j h1 h2 => h j (by omega) (by omega))
    by_cases hp : P i
    · rw [lst_p hp, lst_p ((h i (by omega) (by omega)).mp hp)]
    · rw [lst_n hp, lst_n (fun q => hp ((h i (by omega) (by omega)).mpr q)), ih]
section
variable {a b : Nat → Int}
theorem WF_c (he : Sam a b) (hW : WF a) : WF b := by
  obtain ⟨h0, h1, h2, h3, h4, h5⟩ := hW
  have e3 := he 3 (by decide)
  refine ⟨by rw [he 0 (by decide)]; exact h0, by rw [he 1 (by decide)]; exact h1, by rw [he 2 (by decide)]; exact h2, by rw [e3]; exact h3, fun p p0 p1 => ?_, fun k k0 k1 => by rw [he _ (by omega)]; exact h5 k k0 k1⟩
  rw [e3] at p1
  rw [he _ (by omega), he _ (by omega), he _ (by omega), he _ (by omega)]
  exact h4 p p0 p1
theorem Clr_c (he : Sam a b) {x y w h : Int} (hx : 0 ≤ x) (hy : 0 ≤ y) (hw : x + w ≤ 7) (hh : y + h ≤ 7) : Clr b x y w h ↔ Clr a x y w h := by
  have e : ∀ i j : Int, x ≤ i → i < x + w → y ≤ j → j < y + h → b (24 + 7 * i + j).toNat = a (24 + 7 * i + j).toNat := fun i j _ _ _ _ => he _ (by omega)
  exact ⟨fun hc i j h1 h2 h3 h4 => by rw [← e i j h1 h2 h3 h4]; exact hc i j h1 h2 h3 h4, fun hc i j h1 h2 h3 h4 => by rw [e i j h1 h2 h3 h4]; exact hc i j h1 h2 h3 h4⟩
theorem Fit_c (he : Sam a b) {p w h : Int} (h0 : 0 ≤ p) (h1 : p < 5) : Fit b p w h ↔ Fit a p w h := by
  unfold Fit
  rw [he (4 + p).toNat (by omega), he (9 + p).toNat (by omega), he (19 + p).toNat (by omega)]
theorem plv_c (he : Sam a b) (w h : Int) : ∀ n : Nat, n ≤ 5 → plv b w h n = plv a w h n
  | 0, _ => rfl
  | n + 1, hn => by
    have ih := plv_c he w h n (by omega)
    have hf := Fit_c he (p := n) (w := w) (h := h) (by omega) (by omega)
    show (if Fit b n w h then max (plv b w h n) (b (14 + n)) else plv b w h n) = (if Fit a n w h then max (plv a w h n) (a (14 + n)) else plv a w h n)
    rw [ih, he (14 + n) (by omega)]
    by_cases h1 : Fit a n w h
    · rw [if_pos h1, if_pos (hf.mpr h1)]
    · rw [if_neg h1, if_neg (fun q => h1 (hf.mp q))]
theorem Pln_e (he : Sam a b) (hW : WF a) {x y w h : Int} (hx : 0 ≤ x) (hy : 0 ≤ y) (hw : x + w ≤ 7) (hh : y + h ≤ 7) : Pln b x y w h = Pln a x y w h := by
  have h3 := hW.2.2.2.1
  have hc := Clr_c he hx hy hw hh
  by_cases h1 : Clr a x y w h
  · rw [Pln_c h1, Pln_c (hc.mpr h1), he 3 (by decide), plv_c he w h _ (by omega)]
  · rw [Pln_n h1, Pln_n (fun q => h1 (hc.mp q))]
theorem clo_e (he : Sam a b) (hW : WF a) {K : Int} (hK : 0 ≤ K) {u v : Bool} : ∀ (n : Nat) (x y w h : Int), 0 ≤ x → 0 ≤ y → 1 ≤ w → 1 ≤ h → x + w ≤ 7 → y + h ≤ 7 → clo K u v (Pln b) n x y w h = clo K u v (Pln a) n x y w h
  | 0, x, y, w, h, hx, hy, _, _, hw, hh => Pln_e he hW hx hy hw hh
  | n + 1, x, y, w, h, hx, hy, h1, h2, hw, hh => lev_congr hK (Pln_e he hW hx hy hw hh) (fun x' y' w' h' q1 q2 q3 q4 q5 q6 _ => clo_e he hW hK n x' y' w' h' (by omega) (by omega) q3 q4 (by omega) (by omega)) h1 h2
theorem Bs_e (he : Sam a b) (hW : WF a) {x y w h : Int} (hx : 0 ≤ x) (hy : 0 ≤ y) (h1 : 1 ≤ w) (h2 : 1 ≤ h) (hw : x + w ≤ 7) (hh : y + h ≤ 7) : Bs b x y w h = Bs a x y w h := by
  unfold Bs Clo
  rw [he 2 (by decide)]
  exact clo_e he hW hW.2.2.1.1 _ x y w h hx hy h1 h2 hw hh
theorem PT_e (he : Sam a b) (hW : WF a) {x y w h v : Int} (hx : 0 ≤ x) (hy : 0 ≤ y) (hw : x + w ≤ 7) (hh : y + h ≤ 7) : PT b x y w h v = PT a x y w h v := by
  have h3 := hW.2.2.2.1
  have hc := Clr_c he hx hy hw hh
  unfold PT
  rw [he 3 (by decide)]
  refine lst_congr _ _ (fun p p0 p1 => ?_)
  have hf := Fit_c he (p := p) (w := w) (h := h) p0 (by omega)
  unfold PtP
  rw [hc, hf, he (14 + p).toNat (by omega)]
theorem KC_e (he : Sam a b) (hW : WF a) {way x y w h : Int} (hway : way = 0 ∨ way = 1) (hx : 0 ≤ x) (hy : 0 ≤ y) (h1 : 1 ≤ w) (h2 : 1 ≤ h) (hw : x + w ≤ 7) (hh : y + h ≤ 7) : KC b way x y w h = KC a way x y w h := by
  have bK := hW.2.2.1
  unfold KC
  refine lst_congr _ _ (fun k k0 k1 => ?_)
  rw [he 2 (by decide), Bs_e he hW hx hy h1 h2 hw hh]
  rcases hway with rfl | rfl
  · rw [if_pos rfl] at k1
    rw [cutv_0, cutv_0, Bs_e he hW hx hy k0 h2 (by omega) hh]
    by_cases hc : 0 < w - k - a 2
    · rw [if_pos hc, if_pos hc, Bs_e he hW (show 0 ≤ x + k + a 2 by omega) hy (show 1 ≤ w - k - a 2 by omega) h2 (by omega) hh]
    · rw [if_neg hc, if_neg hc]
  · rw [if_neg (by decide)] at k1
    rw [cutv_1, cutv_1, Bs_e he hW hx hy h1 k0 hw (by omega)]
    by_cases hc : 0 < h - k - a 2
    · rw [if_pos hc, if_pos hc, Bs_e he hW hx (show 0 ≤ y + k + a 2 by omega) h1 (show 1 ≤ h - k - a 2 by omega) hw (by omega)]
    · rw [if_neg hc, if_neg hc]
theorem tr_e (he : Sam a b) (hW : WF a) : ∀ (n : Nat) (i fr x y w h : Int), 0 ≤ x → 0 ≤ y → 1 ≤ w → 1 ≤ h → x + w ≤ 7 → y + h ≤ 7 → tr b n i fr x y w h = tr a n i fr x y w h
  | 0, _, _, _, _, _, _, _, _, _, _, _, _ => rfl
  | n + 1, i, fr, x, y, w, h, hx, hy, h1, h2, hw, hh => by
    have bK := hW.2.2.1
    rw [tr, tr, Bs_e he hW hx hy h1 h2 hw hh, PT_e he hW hx hy hw hh, KC_e he hW (Or.inl rfl) hx hy h1 h2 hw hh, KC_e he hW (Or.inr rfl) hx hy h1 h2 hw hh, he 2 (by decide)]
    by_cases hb : Bs a x y w h = 0
    · rw [if_pos hb, if_pos hb]
    rw [if_neg hb, if_neg hb]
    by_cases hp : PT a x y w h (Bs a x y w h) = -5
    · rw [if_neg (Decidable.not_not.mpr hp), if_neg (Decidable.not_not.mpr hp)]
      by_cases h0 : KC a 0 x y w h = -5
      · rw [if_neg (Decidable.not_not.mpr h0), if_neg (Decidable.not_not.mpr h0)]
        rcases KC_o (a := a) (x := x) (y := y) (w := w) (h := h) (way := 1) (Or.inr rfl) with g | ⟨g1, -, g2, -⟩
        · exact absurd g (KC_some hW h1 h2 hb hp h0)
        have g2 := g2 rfl
        rw [tr_e he hW n (i + 1) i x y w (KC a 1 x y w h) hx hy h1 g1 hw (by omega)]
        by_cases hc : 0 < h - KC a 1 x y w h - a 2
        · rw [if_pos hc, if_pos hc, tr_e he hW n _ i x (y + KC a 1 x y w h + a 2) w (h - KC a 1 x y w h - a 2) hx (by omega) h1 (by omega) hw (by omega)]
        · rw [if_neg hc, if_neg hc]
      · rw [if_pos h0, if_pos h0]
        rcases KC_o (a := a) (x := x) (y := y) (w := w) (h := h) (way := 0) (Or.inl rfl) with g | ⟨g1, g2, -, -⟩
        · exact absurd g h0
        have g2 := g2 rfl
        rw [tr_e he hW n (i + 1) i x y (KC a 0 x y w h) h hx hy g1 h2 (by omega) hh]
        by_cases hc : 0 < w - KC a 0 x y w h - a 2
        · rw [if_pos hc, if_pos hc, tr_e he hW n _ i (x + KC a 0 x y w h + a 2) y (w - KC a 0 x y w h - a 2) h (by omega) hy (by omega) h2 (by omega) hh]
        · rw [if_neg hc, if_neg hc]
    · rw [if_pos hp, if_pos hp]
theorem dmx_e (he : Sam a b) (hW : WF a) : ∀ (n : Nat) (dp x y w h : Int), 0 ≤ x → 0 ≤ y → 1 ≤ w → 1 ≤ h → x + w ≤ 7 → y + h ≤ 7 → dmx b n dp x y w h = dmx a n dp x y w h
  | 0, _, _, _, _, _, _, _, _, _, _, _ => rfl
  | n + 1, dp, x, y, w, h, hx, hy, h1, h2, hw, hh => by
    have bK := hW.2.2.1
    rw [dmx, dmx, Bs_e he hW hx hy h1 h2 hw hh, PT_e he hW hx hy hw hh, KC_e he hW (Or.inl rfl) hx hy h1 h2 hw hh, KC_e he hW (Or.inr rfl) hx hy h1 h2 hw hh, he 2 (by decide)]
    by_cases hb : Bs a x y w h = 0
    · rw [if_pos hb, if_pos hb]
    rw [if_neg hb, if_neg hb]
    by_cases hp : PT a x y w h (Bs a x y w h) = -5
    · rw [if_neg (Decidable.not_not.mpr hp), if_neg (Decidable.not_not.mpr hp)]
      by_cases h0 : KC a 0 x y w h = -5
      · rw [if_neg (Decidable.not_not.mpr h0), if_neg (Decidable.not_not.mpr h0)]
        rcases KC_o (a := a) (x := x) (y := y) (w := w) (h := h) (way := 1) (Or.inr rfl) with g | ⟨g1, -, g2, -⟩
        · exact absurd g (KC_some hW h1 h2 hb hp h0)
        have g2 := g2 rfl
        rw [dmx_e he hW n (dp + 1) x y w (KC a 1 x y w h) hx hy h1 g1 hw (by omega)]
        by_cases hc : 0 < h - KC a 1 x y w h - a 2
        · rw [if_pos hc, if_pos hc, dmx_e he hW n (dp + 1) x (y + KC a 1 x y w h + a 2) w (h - KC a 1 x y w h - a 2) hx (by omega) h1 (by omega) hw (by omega)]
        · rw [if_neg hc, if_neg hc]
      · rw [if_pos h0, if_pos h0]
        rcases KC_o (a := a) (x := x) (y := y) (w := w) (h := h) (way := 0) (Or.inl rfl) with g | ⟨g1, g2, -, -⟩
        · exact absurd g h0
        have g2 := g2 rfl
        rw [dmx_e he hW n (dp + 1) x y (KC a 0 x y w h) h hx hy g1 h2 (by omega) hh]
        by_cases hc : 0 < w - KC a 0 x y w h - a 2
        · rw [if_pos hc, if_pos hc, dmx_e he hW n (dp + 1) (x + KC a 0 x y w h + a 2) y (w - KC a 0 x y w h - a 2) h (by omega) hy (by omega) h2 (by omega) hh]
        · rw [if_neg hc, if_neg hc]
    · rw [if_pos hp, if_pos hp]
theorem TR_e (he : Sam a b) (hW : WF a) : TR b = TR a := by
  have b0 := hW.1
  have b1 := hW.2.1
  unfold TR
  rw [he 0 (by decide), he 1 (by decide)]
  exact tr_e he hW 14 0 (-5) 0 0 (a 0) (a 1) (by omega) (by omega) b0.1 b1.1 (by omega) (by omega)
theorem DX_e (he : Sam a b) (hW : WF a) : DX b = DX a := by
  have b0 := hW.1
  have b1 := hW.2.1
  unfold DX
  rw [he 0 (by decide), he 1 (by decide)]
  exact dmx_e he hW 14 0 0 0 (a 0) (a 1) (by omega) (by omega) b0.1 b1.1 (by omega) (by omega)
end
theorem FreA_e {h : qH} {a b : Nat → Int} (he : Sam a b) (hW : WF a) (hF : FreA h a) : FreA h b := by
  have b0 := hW.1
  have b1 := hW.2.1
  obtain ⟨t, f, us, h1, h2, h3, h4, h5, h6, h7, h8⟩ := hF
  refine ⟨t, f, us, by rw [TR_e he hW, DX_e he hW]; exact h1, h2, h3, h4, h5, fun x y w h g1 g2 g3 g4 g5 g6 => ?_, by rw [TR_e he hW]; exact h7, by rw [TR_e he hW]; exact h8⟩
  rw [he 0 (by decide)] at g5
  rw [he 1 (by decide)] at g6
  rw [Bs_e he hW g1 g2 g3 g4 (by omega) (by omega)]
  exact h6 x y w h g1 g2 g3 g4 g5 g6
theorem Us_b {a : Nat → Int} (hW : WF a) (p : Int) : 0 ≤ Us (TR a) p ∧ Us (TR a) p ≤ 97 := by
  have hl := TR_len hW
  have := sumk_b (g := fun j => if nd (TR a) j.toNat 0 = 1 ∧ nd (TR a) j.toNat 5 = p then 1 else 0) (B := 1) (TR a).length (fun k _ _ => by split <;> omega)
  unfold Us
  omega
theorem Pa_b {a : Nat → Int} (hW : WF a) : 0 ≤ Pa (TR a) ∧ Pa (TR a) ≤ 97 := by
  have hl := TR_len hW
  have := sumk_b (g := fun j => if nd (TR a) j.toNat 0 = 1 then 1 else 0) (B := 1) (TR a).length (fun k _ _ => by split <;> omega)
  unfold Pa
  omega
theorem Cu_b {a : Nat → Int} (hW : WF a) : 0 ≤ Cu (TR a) ∧ Cu (TR a) ≤ 97 := by
  have hl := TR_len hW
  have := sumk_b (g := fun j => if 2 ≤ nd (TR a) j.toNat 0 then 1 else 0) (B := 1) (TR a).length (fun k _ _ => by split <;> omega)
  unfold Cu
  omega
