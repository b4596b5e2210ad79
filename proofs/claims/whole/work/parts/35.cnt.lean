/-! ===== what is counted of a list of nodes ===== -/
theorem sumk_l (φ : List Int → Int) (l : List (List Int)) : ∀ n : Nat, n ≤ l.length → sumk n (fun j => φ (l.getD j.toNat [])) = ((l.take n).map φ).sum
  | 0, _ => by simp [sumk]
  | n + 1, h => by
    have ih := sumk_l φ l n (by omega)
    show sumk n _ + φ (l.getD ((n : Nat) : Int).toNat []) = _
    rw [ih, show ((n : Nat) : Int).toNat = n by omega]
    rw [List.take_add_one, List.map_append, List.sum_append]
    congr 1
    rw [List.getElem?_eq_getElem (show n < l.length by omega), List.getD_eq_getElem?_getD, List.getElem?_eq_getElem (show n < l.length by omega)]
    simp
theorem sumk_a (φ : List Int → Int) (l : List (List Int)) : sumk l.length (fun j => φ (l.getD j.toNat [])) = (l.map φ).sum := by
  rw [sumk_l φ l l.length (Nat.le_refl _), List.take_length]
def fUs (p : Int) (v : List Int) : Int := if v.getD 0 0 = 1 ∧ v.getD 5 0 = p then 1 else 0
def fPa (v : List Int) : Int := if v.getD 0 0 = 1 then 1 else 0
def fCu (v : List Int) : Int := if 2 ≤ v.getD 0 0 then 1 else 0
def fSq (v : List Int) : Int := if v.getD 0 0 = 1 then v.getD 3 0 * v.getD 4 0 else 0
theorem Us_l (l : List (List Int)) (p : Int) : Us l p = (l.map (fUs p)).sum := sumk_a (fUs p) l
theorem Pa_l (l : List (List Int)) : Pa l = (l.map fPa).sum := sumk_a fPa l
theorem Cu_l (l : List (List Int)) : Cu l = (l.map fCu).sum := sumk_a fCu l
theorem Sq_l (l : List (List Int)) : Sq l = (l.map fSq).sum := sumk_a fSq l
theorem Us_c (v : List Int) (l : List (List Int)) (p : Int) : Us (v :: l) p = fUs p v + Us l p := by rw [Us_l, Us_l, List.map_cons, List.sum_cons]
theorem Pa_c (v : List Int) (l : List (List Int)) : Pa (v :: l) = fPa v + Pa l := by rw [Pa_l, Pa_l, List.map_cons, List.sum_cons]
theorem Cu_c (v : List Int) (l : List (List Int)) : Cu (v :: l) = fCu v + Cu l := by rw [Cu_l, Cu_l, List.map_cons, List.sum_cons]
theorem Sq_c (v : List Int) (l : List (List Int)) : Sq (v :: l) = fSq v + Sq l := by rw [Sq_l, Sq_l, List.map_cons, List.sum_cons]
theorem Us_app (l m : List (List Int)) (p : Int) : Us (l ++ m) p = Us l p + Us m p := by rw [Us_l, Us_l, Us_l, List.map_append, List.sum_append]
theorem Pa_app (l m : List (List Int)) : Pa (l ++ m) = Pa l + Pa m := by rw [Pa_l, Pa_l, Pa_l, List.map_append, List.sum_append]
theorem Cu_app (l m : List (List Int)) : Cu (l ++ m) = Cu l + Cu m := by rw [Cu_l, Cu_l, Cu_l, List.map_append, List.sum_append]
theorem Sq_app (l m : List (List Int)) : Sq (l ++ m) = Sq l + Sq m := by rw [Sq_l, Sq_l, Sq_l, List.map_append, List.sum_append]
theorem Us_n (p : Int) : Us [] p = 0 := rfl
theorem Pa_n : Pa [] = 0 := rfl
theorem Cu_n : Cu [] = 0 := rfl
theorem Sq_n : Sq [] = 0 := rfl
/-- how deep the cuts of a piece's tree go, dp cuts being above it -/
noncomputable def dmx (a : Nat → Int) : Nat → Int → Int → Int → Int → Int → Int
  | 0, _, _, _, _, _ => 0
  | n + 1, dp, x, y, w, h =>
    if Bs a x y w h = 0 then 0
    else if ¬ PT a x y w h (Bs a x y w h) = -5 then 0
    else if ¬ KC a 0 x y w h = -5 then max (dp + 1) (max (dmx a n (dp + 1) x y (KC a 0 x y w h) h) (if 0 < w - KC a 0 x y w h - a 2 then dmx a n (dp + 1) (x + KC a 0 x y w h + a 2) y (w - KC a 0 x y w h - a 2) h else 0))
    else max (dp + 1) (max (dmx a n (dp + 1) x y w (KC a 1 x y w h)) (if 0 < h - KC a 1 x y w h - a 2 then dmx a n (dp + 1) x (y + KC a 1 x y w h + a 2) w (h - KC a 1 x y w h - a 2) else 0))
theorem dmx_b {a : Nat → Int} : ∀ (n : Nat) (dp x y w h : Int), 0 ≤ dp → 0 ≤ dmx a n dp x y w h ∧ dmx a n dp x y w h ≤ dp + n
  | 0, dp, x, y, w, h, hd => by
    show 0 ≤ (0 : Int) ∧ (0 : Int) ≤ _
    omega
  | n + 1, dp, x, y, w, h, hd => by
    rw [dmx]
    split
    · omega
    · split
      · omega
      · split
        · have h1 := dmx_b (a := a) n (dp + 1) x y (KC a 0 x y w h) h (by omega)
          split
          · have h2 := dmx_b (a := a) n (dp + 1) (x + KC a 0 x y w h + a 2) y (w - KC a 0 x y w h - a 2) h (by omega)
            omega
          · omega
        · have h1 := dmx_b (a := a) n (dp + 1) x y w (KC a 1 x y w h) (by omega)
          split
          · have h2 := dmx_b (a := a) n (dp + 1) x (y + KC a 1 x y w h + a 2) w (h - KC a 1 x y w h - a 2) (by omega)
            omega
          · omega
/-- the class asks for a part of this worth or more: it is the same, no part that a piece is has more -/
theorem LPt_eq {a : Nat → Int} (hW : WF a) {x y w h : Int} (hw : 1 ≤ w) (hh : 1 ≤ h) : LPt a x y w h (Bs a x y w h) = PT a x y w h (Bs a x y w h) := by
  have h3 := hW.2.2.2.1
  have key : ∀ n : Nat, (n : Int) ≤ a 3 → ∀ p : Int, 0 ≤ p → p < n → Fit a p w h → a (14 + p).toNat ≤ plv a w h n := by
    intro n
    induction n with
    | zero => intro _ p h1 h2; omega
    | succ n ih =>
      intro hn p h1 h2 hf
      have hs := plv_s (a := a) (w := w) (h := h) (p := n) (by omega)
      rw [show ((n : Int) + 1).toNat = n + 1 by omega, show (n : Int).toNat = n by omega] at hs
      rw [hs]
      by_cases e : p = n
      · rw [e] at hf ⊢
        rw [if_pos hf]
        omega
      · have := ih (by omega) p h1 (by omega) hf
        split <;> omega
  have ge : Pln a x y w h ≤ Bs a x y w h := by
    rw [Bs_eq hW hw hh]
    exact Int.le_trans (maxk_ge _ _ _) (maxk_ge _ _ _)
  have e : ∀ p : Int, 0 ≤ p → p < a 3 → ((Clr a x y w h ∧ Fit a p w h ∧ Bs a x y w h ≤ a (14 + p).toNat) ↔ PtP a x y w h (Bs a x y w h) p) := by
    intro p h1 h2
    refine ⟨fun ⟨c1, c2, c4⟩ => ⟨c1, c2, ?_⟩, fun ⟨c1, c2, c4⟩ => ⟨c1, c2, by omega⟩⟩
    have := key (a 3).toNat (by omega) p h1 (by omega) c2
    rw [Pln_c c1] at ge
    omega
  unfold LPt PT
  rcases lst_o (P := PtP a x y w h (Bs a x y w h)) (a 3).toNat 0 (by omega) with ⟨g1, g2⟩ | ⟨g1, g2, g3, g4⟩
  · rw [g1]
    exact lst_no _ _ (fun j a1 a2 hp => g2 j a1 a2 ((e j a1 (by omega)).mp hp))
  · exact lst_at _ _ _ g1 g2 (fun j a1 a2 hp => g4 j a1 a2 ((e j a1 (by omega)).mp hp)) ((e _ g1 (by omega)).mpr g3)
