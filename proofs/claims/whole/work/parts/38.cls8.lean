/-! ===== the class: the tree grows, cells 21 3 6 23 25 27 29 ===== -/
def BndA (i pn cn de sq : Int) (us : Nat → Int) : Prop := (0 ≤ pn ∧ pn ≤ i) ∧ (0 ≤ cn ∧ cn ≤ i) ∧ (0 ≤ de ∧ de ≤ 100) ∧ (0 ≤ sq ∧ sq ≤ 49 * i) ∧ ∀ p : Int, 0 ≤ p → p < 5 → 0 ≤ us p.toNat ∧ us p.toNat ≤ i
def GrwA (l : List (List Int)) (m i pn cn de sq : Int) (g : qH) (f us : Nat → Int) (g' : qH) (f' us' : Nat → Int) : Prop := g' 21 = cobA (i + l.length) (pn + Pa l) (cn + Cu l) (max de m) (sq + Sq l) ∧ g' 27 = .inr (0, 776, .inl f') ∧ g' 29 = .inr (0, 5, .inl us') ∧ (∀ p : Int, 0 ≤ p → p < 5 → us' p.toNat = us p.toNat + Us l p) ∧ (∀ k, k ≠ 21 → k ≠ 27 → k ≠ 29 → g' k = g k) ∧ Kep f f' i ∧ Nds f' i l ∧ BndA (i + l.length) (pn + Pa l) (cn + Cu l) (max de m) (sq + Sq l) us'
theorem cobA_e {n n' p p' c c' e e' s s' : Int} (h1 : n = n') (h2 : p = p') (h3 : c = c') (h4 : e = e') (h5 : s = s') : cobA n p c e s = cobA n' p' c' e' s' := by subst h1 h2 h3 h4 h5; rfl
theorem BndA_e {n n' p p' c c' e e' s s' : Int} {us : Nat → Int} (h : BndA n p c e s us) (h1 : n = n') (h2 : p = p') (h3 : c = c') (h4 : e = e') (h5 : s = s') : BndA n' p' c' e' s' us := by subst h1 h2 h3 h4 h5; exact h
theorem GrwA_n {i pn cn de sq : Int} {g : qH} {f us : Nat → Int} (h1 : g 21 = cobA i pn cn de sq) (h2 : g 27 = .inr (0, 776, .inl f)) (h3 : g 29 = .inr (0, 5, .inl us)) (hB : BndA i pn cn de sq us) : GrwA [] 0 i pn cn de sq g f us g f us := by
  have h0 := hB.2.2.1.1
  refine ⟨h1.trans (cobA_e ?_ ?_ ?_ ?_ ?_), h2, h3, fun p _ _ => ?_, fun _ _ _ _ => rfl, fun _ _ _ => rfl, Nds_nil, BndA_e hB ?_ ?_ ?_ ?_ ?_⟩ <;> (try simp only [Pa_n, Cu_n, Sq_n, Us_n, List.length_nil]) <;> omega
theorem GrwA_t {l1 l2 : List (List Int)} {m1 m2 i i' pn pn' cn cn' de de' sq sq' : Int} {g g1 g2 : qH} {f us f1 us1 f2 us2 : Nat → Int} (hi : 0 ≤ i) (h1 : GrwA l1 m1 i pn cn de sq g f us g1 f1 us1) (e1 : i' = i + l1.length) (e2 : pn' = pn + Pa l1) (e3 : cn' = cn + Cu l1) (e4 : de' = max de m1) (e5 : sq' = sq + Sq l1) (h2 : GrwA l2 m2 i' pn' cn' de' sq' g1 f1 us1 g2 f2 us2) : GrwA (l1 ++ l2) (max m1 m2) i pn cn de sq g f us g2 f2 us2 := by
  subst e1 e2 e3 e4 e5
  obtain ⟨-, -, -, a4, a5, a6, a7, -⟩ := h1
  obtain ⟨b1, b2, b3, b4, b5, b6, b7, b8⟩ := h2
  refine ⟨b1.trans (cobA_e ?_ ?_ ?_ ?_ ?_), b2, b3, fun p k1 k2 => ?_, fun k k1 k2 k3 => (b5 k k1 k2 k3).trans (a5 k k1 k2 k3), Kep_t a6 b6 (by omega), Nds_app (Nds_k a7 b6 hi (by omega)) b7, BndA_e b8 ?_ ?_ ?_ ?_ ?_⟩
  case refine_6 => rw [b4 p k1 k2, a4 p k1 k2, Us_app]; omega
  all_goals ((try simp only [Pa_app, Cu_app, Sq_app, List.length_append]); omega)

/-! ===== the class: the tree grows, cells 22 5 8 24 26 28 30 ===== -/
def BndB (i pn cn de sq : Int) (us : Nat → Int) : Prop := (0 ≤ pn ∧ pn ≤ i) ∧ (0 ≤ cn ∧ cn ≤ i) ∧ (0 ≤ de ∧ de ≤ 100) ∧ (0 ≤ sq ∧ sq ≤ 49 * i) ∧ ∀ p : Int, 0 ≤ p → p < 5 → 0 ≤ us p.toNat ∧ us p.toNat ≤ i
def GrwB (l : List (List Int)) (m i pn cn de sq : Int) (g : qH) (f us : Nat → Int) (g' : qH) (f' us' : Nat → Int) : Prop := g' 22 = cobB (i + l.length) (pn + Pa l) (cn + Cu l) (max de m) (sq + Sq l) ∧ g' 28 = .inr (0, 776, .inl f') ∧ g' 30 = .inr (0, 5, .inl us') ∧ (∀ p : Int, 0 ≤ p → p < 5 → us' p.toNat = us p.toNat + Us l p) ∧ (∀ k, k ≠ 22 → k ≠ 28 → k ≠ 30 → g' k = g k) ∧ Kep f f' i ∧ Nds f' i l ∧ BndB (i + l.length) (pn + Pa l) (cn + Cu l) (max de m) (sq + Sq l) us'
theorem cobB_e {n n' p p' c c' e e' s s' : Int} (h1 : n = n') (h2 : p = p') (h3 : c = c') (h4 : e = e') (h5 : s = s') : cobB n p c e s = cobB n' p' c' e' s' := by subst h1 h2 h3 h4 h5; rfl
theorem BndB_e {n n' p p' c c' e e' s s' : Int} {us : Nat → Int} (h : BndB n p c e s us) (h1 : n = n') (h2 : p = p') (h3 : c = c') (h4 : e = e') (h5 : s = s') : BndB n' p' c' e' s' us := by subst h1 h2 h3 h4 h5; exact h
theorem GrwB_n {i pn cn de sq : Int} {g : qH} {f us : Nat → Int} (h1 : g 22 = cobB i pn cn de sq) (h2 : g 28 = .inr (0, 776, .inl f)) (h3 : g 30 = .inr (0, 5, .inl us)) (hB : BndB i pn cn de sq us) : GrwB [] 0 i pn cn de sq g f us g f us := by
  have h0 := hB.2.2.1.1
  refine ⟨h1.trans (cobB_e ?_ ?_ ?_ ?_ ?_), h2, h3, fun p _ _ => ?_, fun _ _ _ _ => rfl, fun _ _ _ => rfl, Nds_nil, BndB_e hB ?_ ?_ ?_ ?_ ?_⟩ <;> (try simp only [Pa_n, Cu_n, Sq_n, Us_n, List.length_nil]) <;> omega
theorem GrwB_t {l1 l2 : List (List Int)} {m1 m2 i i' pn pn' cn cn' de de' sq sq' : Int} {g g1 g2 : qH} {f us f1 us1 f2 us2 : Nat → Int} (hi : 0 ≤ i) (h1 : GrwB l1 m1 i pn cn de sq g f us g1 f1 us1) (e1 : i' = i + l1.length) (e2 : pn' = pn + Pa l1) (e3 : cn' = cn + Cu l1) (e4 : de' = max de m1) (e5 : sq' = sq + Sq l1) (h2 : GrwB l2 m2 i' pn' cn' de' sq' g1 f1 us1 g2 f2 us2) : GrwB (l1 ++ l2) (max m1 m2) i pn cn de sq g f us g2 f2 us2 := by
  subst e1 e2 e3 e4 e5
  obtain ⟨-, -, -, a4, a5, a6, a7, -⟩ := h1
  obtain ⟨b1, b2, b3, b4, b5, b6, b7, b8⟩ := h2
  refine ⟨b1.trans (cobB_e ?_ ?_ ?_ ?_ ?_), b2, b3, fun p k1 k2 => ?_, fun k k1 k2 k3 => (b5 k k1 k2 k3).trans (a5 k k1 k2 k3), Kep_t a6 b6 (by omega), Nds_app (Nds_k a7 b6 hi (by omega)) b7, BndB_e b8 ?_ ?_ ?_ ?_ ?_⟩
  case refine_6 => rw [b4 p k1 k2, a4 p k1 k2, Us_app]; omega
  all_goals ((try simp only [Pa_app, Cu_app, Sq_app, List.length_append]); omega)
