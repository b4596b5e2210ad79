/-! ===== texts: what they say ===== -/
def sgn (tx : Nat → Int) (sg k : Int) : Int := if 0 ≤ k ∧ k < sg then tx k.toNat else -1
abbrev dgP (tx : Nat → Int) (sg k : Int) : Prop := 48 ≤ sgn tx sg k ∧ sgn tx sg k ≤ 57
def due (c : Int) : Int := if c = 115 then 2 else if c = 107 then 1 else if c = 112 then 3 else if c = 116 then 3 else if c = 100 then 2 else 0
theorem due_b (c : Int) : 0 ≤ due c ∧ due c ≤ 3 := by
  unfold due
  split
  · omega
  · split
    · omega
    · split
      · omega
      · split
        · omega
        · split <;> omega
theorem due_0 {c : Int} (h : ¬ due c = 0) : c = 115 ∧ due c = 2 ∨ c = 107 ∧ due c = 1 ∨ c = 112 ∧ due c = 3 ∨ c = 116 ∧ due c = 3 ∨ c = 100 ∧ due c = 2 := by
  unfold due at h ⊢
  by_cases h1 : c = 115
  · rw [if_pos h1]; omega
  · rw [if_neg h1] at h ⊢
    by_cases h2 : c = 107
    · rw [if_pos h2]; omega
    · rw [if_neg h2] at h ⊢
      by_cases h3 : c = 112
      · rw [if_pos h3]; omega
      · rw [if_neg h3] at h ⊢
        by_cases h4 : c = 116
        · rw [if_pos h4]; omega
        · rw [if_neg h4] at h ⊢
          by_cases h5 : c = 100
          · rw [if_pos h5]; omega
          · rw [if_neg h5] at h
            exact absurd rfl h
theorem due_1 {c : Int} (h : due c = 0) : c ≠ 115 ∧ c ≠ 107 ∧ c ≠ 112 ∧ c ≠ 116 ∧ c ≠ 100 := by
  refine ⟨?_, ?_, ?_, ?_, ?_⟩ <;> rintro rfl <;> exact absurd h (by decide)
theorem sgn_in {tx : Nat → Int} {sg k : Int} (h0 : 0 ≤ k) (h1 : k < sg) : sgn tx sg k = tx k.toNat := if_pos ⟨h0, h1⟩
theorem sgn_out {tx : Nat → Int} {sg k : Int} (h : ¬ (0 ≤ k ∧ k < sg)) : sgn tx sg k = -1 := if_neg h
theorem sgn_b {tx : Nat → Int} {sg : Int} (ht : ∀ k : Nat, 0 ≤ tx k ∧ tx k ≤ 127) (k : Int) : -1 ≤ sgn tx sg k ∧ sgn tx sg k ≤ 127 := by
  unfold sgn
  split
  · have := ht k.toNat; omega
  · omega
theorem sgn_p {tx : Nat → Int} {sg k : Int} (h : ¬ sgn tx sg k = -1) : 0 ≤ k ∧ k < sg := by
  by_cases e : 0 ≤ k ∧ k < sg
  · exact e
  · exact absurd (sgn_out e) h
/-- the first of n places from k on that is no digit; -1: none -/
def scD (tx : Nat → Int) (sg : Int) : Nat → Int → Int
  | 0, _ => -1
  | n + 1, k => if dgP tx sg k then scD tx sg n (k + 1) else k
theorem scD_p {tx : Nat → Int} {sg : Int} {n : Nat} {k : Int} (h : dgP tx sg k) : scD tx sg (n + 1) k = scD tx sg n (k + 1) := if_pos h
theorem scD_n {tx : Nat → Int} {sg : Int} {n : Nat} {k : Int} (h : ¬ dgP tx sg k) : scD tx sg (n + 1) k = k := if_neg h
theorem scD_ok {tx : Nat → Int} {sg : Int} : ∀ (n : Nat) (k : Int), 0 ≤ k → scD tx sg n k = -1 → ∀ i : Int, 0 ≤ i → i < n → dgP tx sg (k + i)
  | 0, _, _, _, i, h1, h2 => by omega
  | n + 1, k, hk, h, i, h1, h2 => by
    by_cases hd : dgP tx sg k
    · rw [scD_p hd] at h
      by_cases e : i = 0
      · rw [e, show k + 0 = k by omega]; exact hd
      · have := scD_ok n (k + 1) (by omega) h (i - 1) (by omega) (by omega)
        rw [show k + 1 + (i - 1) = k + i by omega] at this
        exact this
    · rw [scD_n hd] at h
      omega
def eC (tx : Nat → Int) (sg k : Int) : Int := if due (sgn tx sg k) = 3 ∧ dgP tx sg (k + 1 + due (sgn tx sg k)) then k + 1 + due (sgn tx sg k) + 1 else k + 1 + due (sgn tx sg k)
def pF (tx : Nat → Int) (sg : Int) : Nat → Int → Int
  | 0, k => k
  | m + 1, k => if due (sgn tx sg k) = 0 then k else if ¬ scD tx sg (due (sgn tx sg k)).toNat (k + 1) = -1 then scD tx sg (due (sgn tx sg k)).toNat (k + 1) else if sg ≤ eC tx sg k then -1 else if ¬ sgn tx sg (eC tx sg k) = 59 ∨ m = 0 then eC tx sg k else pF tx sg m (eC tx sg k + 1)
def pS (tx : Nat → Int) (sg : Int) : Nat → Int → List Int
  | 0, _ => []
  | m + 1, k => k :: (if sg ≤ eC tx sg k then [] else pS tx sg m (eC tx sg k + 1))
/-- a clause that stands whole at k -/
def Cls (tx : Nat → Int) (sg k : Int) : Prop := (0 ≤ k ∧ k < sg) ∧ ¬ due (sgn tx sg k) = 0 ∧ (∀ i : Int, 1 ≤ i → i ≤ due (sgn tx sg k) → dgP tx sg (k + i)) ∧ k + 1 + due (sgn tx sg k) ≤ sg ∧ (k + 1 + due (sgn tx sg k) ≤ eC tx sg k ∧ eC tx sg k ≤ sg) ∧ ∀ j : Int, k ≤ j → j < eC tx sg k → ¬ sgn tx sg j = 59
theorem Cls_i {tx : Nat → Int} {sg k : Int} (hk : 0 ≤ k) (h1 : ¬ due (sgn tx sg k) = 0) (h2 : scD tx sg (due (sgn tx sg k)).toNat (k + 1) = -1) : Cls tx sg k := by
  have hd := due_0 h1
  have hks : 0 ≤ k ∧ k < sg := sgn_p (tx := tx) (by omega)
  have hdig : ∀ i, 1 ≤ i → i ≤ due (sgn tx sg k) → dgP tx sg (k + i) := by
    intro i i1 i2
    have := scD_ok _ _ (by omega) h2 (i - 1) (by omega) (by omega)
    rw [show k + 1 + (i - 1) = k + i by omega] at this
    exact this
  have hin : ∀ j, dgP tx sg j → 0 ≤ j ∧ j < sg := fun j hj => sgn_p (tx := tx) (by omega)
  have hlast := hin _ (hdig (due (sgn tx sg k)) (by omega) (by omega))
  have he : (k + 1 + due (sgn tx sg k) ≤ eC tx sg k ∧ eC tx sg k ≤ sg) ∧ ∀ j, k + 1 + due (sgn tx sg k) ≤ j → j < eC tx sg k → dgP tx sg j := by
    unfold eC
    by_cases hc : due (sgn tx sg k) = 3 ∧ dgP tx sg (k + 1 + due (sgn tx sg k))
    · rw [if_pos hc]
      have := hin _ hc.2
      refine ⟨by omega, fun j j0 j1 => ?_⟩
      rw [show j = k + 1 + due (sgn tx sg k) by omega]
      exact hc.2
    · rw [if_neg hc]
      exact ⟨by omega, fun j j0 j1 => by omega⟩
  refine ⟨hks, h1, hdig, by omega, he.1, fun j j0 j1 => ?_⟩
  by_cases e : j = k
  · rw [e]; omega
  · by_cases e2 : j < k + 1 + due (sgn tx sg k)
    · have := hdig (j - k) (by omega) (by omega)
      rw [show k + (j - k) = j by omega] at this
      omega
    · have := he.2 j (by omega) j1
      omega
/-- what a text without fault says of its first clause -/
theorem pF_s {tx : Nat → Int} {sg : Int} {m : Nat} {k : Int} (hk : 0 ≤ k) (h : pF tx sg (m + 1) k = -1) : Cls tx sg k ∧ (sg ≤ eC tx sg k ∨ eC tx sg k < sg ∧ sgn tx sg (eC tx sg k) = 59 ∧ m ≠ 0 ∧ pF tx sg m (eC tx sg k + 1) = -1) := by
  rw [pF] at h
  by_cases h1 : due (sgn tx sg k) = 0
  · rw [if_pos h1] at h
    omega
  rw [if_neg h1] at h
  by_cases h2 : scD tx sg (due (sgn tx sg k)).toNat (k + 1) = -1
  · rw [if_neg (fun z => z h2)] at h
    have hc := Cls_i hk h1 h2
    refine ⟨hc, ?_⟩
    by_cases h3 : sg ≤ eC tx sg k
    · exact Or.inl h3
    · rw [if_neg h3] at h
      by_cases h4 : ¬ sgn tx sg (eC tx sg k) = 59 ∨ m = 0
      · rw [if_pos h4] at h
        have := hc.2.2.2.2.1
        have := due_b (sgn tx sg k)
        omega
      · rw [if_neg h4] at h
        exact Or.inr ⟨by omega, Decidable.not_not.mp (fun z => h4 (Or.inl z)), fun z => h4 (Or.inr z), h⟩
  · rw [if_pos h2] at h
    exact absurd h h2
def dv (tx : Nat → Int) (sg k : Int) : Int := sgn tx sg k - 48
def wv (tx : Nat → Int) (sg k : Int) : Int := if dgP tx sg (k + 1) then 10 * dv tx sg k + dv tx sg (k + 1) else dv tx sg k
def clOp (tx : Nat → Int) (sg k : Int) (s : zS) : Int × zS :=
  if sgn tx sg k = 115 then spPlate (dv tx sg (k + 1)) (dv tx sg (k + 2)) s
  else if sgn tx sg k = 107 then spKerf (dv tx sg (k + 1)) s
  else if sgn tx sg k = 112 then spPart (dv tx sg (k + 1)) (dv tx sg (k + 2)) (wv tx sg (k + 3)) 0 s
  else if sgn tx sg k = 116 then spPart (dv tx sg (k + 1)) (dv tx sg (k + 2)) (wv tx sg (k + 3)) 1 s
  else spDefect (dv tx sg (k + 1)) (dv tx sg (k + 2)) s
def doAll (tx : Nat → Int) (sg : Int) : List Int → zS → Int × zS
  | [], s => (0, s)
  | k :: l, s => ((if 0 ≤ (clOp tx sg k s).1 then 1 else 0) + (doAll tx sg l (clOp tx sg k s).2).1, (doAll tx sg l (clOp tx sg k s).2).2)
def spRead (s : zS) : Int × zS := if pF s.2.2.2.2.1 s.2.2.2.1 12 0 = -1 then ((doAll s.2.2.2.2.1 s.2.2.2.1 (pS s.2.2.2.2.1 s.2.2.2.1 12 0) s).1, ((doAll s.2.2.2.2.1 s.2.2.2.1 (pS s.2.2.2.2.1 s.2.2.2.1 12 0) s).2.1, s.2.1, s.2.2.1, 0, s.2.2.2.2)) else (-10 - pF s.2.2.2.2.1 s.2.2.2.1 12 0, (s.1, s.2.1, s.2.2.1, 0, s.2.2.2.2))
theorem clOp_2 (tx : Nat → Int) (sg k : Int) (s : zS) : (clOp tx sg k s).2.2 = s.2 := by
  unfold clOp spPlate spKerf spPart spDefect
  repeat' split
  all_goals rfl
theorem wf_clOp {tx : Nat → Int} {sg k : Int} {s : zS} (hW : WS s) : WS (clOp tx sg k s).2 := by
  unfold clOp
  split
  · exact wf_plate hW
  · split
    · exact wf_kerf hW
    · split
      · exact wf_part hW
      · split
        · exact wf_part hW
        · exact wf_defect hW
theorem doAll_2 (tx : Nat → Int) (sg : Int) : ∀ (l : List Int) (s : zS), (doAll tx sg l s).2.2 = s.2
  | [], s => rfl
  | k :: l, s => (doAll_2 tx sg l _).trans (clOp_2 tx sg k s)
theorem wf_doAll {tx : Nat → Int} {sg : Int} : ∀ (l : List Int) {s : zS}, WS s → WS (doAll tx sg l s).2
  | [], _, hW => hW
  | k :: l, _, hW => wf_doAll l (wf_clOp hW)
theorem doAll_b (tx : Nat → Int) (sg : Int) : ∀ (l : List Int) (s : zS), 0 ≤ (doAll tx sg l s).1 ∧ (doAll tx sg l s).1 ≤ l.length
  | [], s => ⟨Int.le_refl _, Int.le_refl _⟩
  | k :: l, s => by
    have := doAll_b tx sg l (clOp tx sg k s).2
    show 0 ≤ (if 0 ≤ (clOp tx sg k s).1 then (1 : Int) else 0) + (doAll tx sg l (clOp tx sg k s).2).1 ∧ (if 0 ≤ (clOp tx sg k s).1 then (1 : Int) else 0) + (doAll tx sg l (clOp tx sg k s).2).1 ≤ ((k :: l).length : Int)
    rw [List.length_cons]
    split <;> omega
theorem wf_read {s : zS} (hW : WS s) : WS (spRead s).2 := by
  have key : ∀ s' : zS, WS s' → s'.2 = s.2 → WS (s'.1, s.2.1, s.2.2.1, 0, s.2.2.2.2) := by
    intro s' h1 h2
    obtain ⟨a', r'⟩ := s'
    obtain ⟨a, kp, ik, sg, tx, so, sz, rw⟩ := s
    have h2 : r' = _ := h2
    subst h2
    obtain ⟨w1, w2, w3, w4, w5⟩ := h1
    exact ⟨w1, w2, w3, by omega, w5⟩
  unfold spRead
  split
  · exact key _ (wf_doAll _ hW) (doAll_2 _ _ _ _)
  · exact key s hW rfl
