/-! ===== the bits of at most three bad squares ===== -/
theorem tp_b (i k : Nat) (hi : i < 64) (hk : k < 64) : (tp i).getLsbD k = decide (i = k) := by
  unfold tp
  rw [BitVec.getLsbD_twoPow]
  simp [hi]
theorem all_o {n : Nat} {P : Nat → Bool} (h : (List.range n).all P = true) {i : Nat} (hi : i < n) : P i = true := List.all_eq_true.mp h i (List.mem_range.mpr hi)
theorem bc_2' {i j : Nat} (hi : i < 49) (hj : j < 49) (hne : i ≠ j) : bcv (Int64.ofBitVec (tp i ||| tp j)) = 2 := by
  by_cases h : j < i
  · exact eq_of_beq (all_o (all_o bc_2 hi) h)
  · rw [BitVec.or_comm]
    exact eq_of_beq (all_o (all_o bc_2 hj) (show i < j by omega))
theorem bc_3' {i j k : Nat} (hi : i < 49) (hj : j < 49) (hk : k < 49) (h1 : i ≠ j) (h2 : i ≠ k) (h3 : j ≠ k) : bcv (Int64.ofBitVec (tp i ||| tp j ||| tp k)) = 3 := by
  have base : ∀ i j k : Nat, i < 49 → j < i → k < j → bcv (Int64.ofBitVec (tp i ||| tp j ||| tp k)) = 3 := fun i j k hi hj hk => eq_of_beq (all_o (all_o (all_o bc_3 hi) hj) hk)
  have c := @BitVec.or_comm 64
  have e : ∀ x y z : BitVec 64, x ||| y ||| z = x ||| (y ||| z) := fun x y z => BitVec.or_assoc x y z
  by_cases a1 : j < i <;> by_cases a2 : k < j <;> by_cases a3 : k < i
  · exact base i j k hi a1 a2
  · omega
  · rw [e, c (tp j) (tp k), ← e]
    exact base i k j hi a3 (by omega)
  · rw [c (tp i ||| tp j) (tp k), ← e]
    exact base k i j hk (by omega) a1
  · rw [c (tp i) (tp j)]
    exact base j i k hj (by omega) a3
  · rw [c (tp i) (tp j), e, c (tp i) (tp k), ← e]
    exact base j k i hj a2 (by omega)
  · omega
  · rw [c (tp i ||| tp j) (tp k), c (tp i) (tp j), ← e]
    exact base k j i hk (by omega) (by omega)
/-- a sum of zeros and ones: a one that is taken out -/
theorem sum_one {f : Int → Int} {n : Nat} (hf : ∀ k : Int, 0 ≤ k → k < n → f k = 0 ∨ f k = 1) (hs : 0 < sumk n f) : ∃ k0 : Int, 0 ≤ k0 ∧ k0 < n ∧ f k0 = 1 ∧ sumk n (fun k => if k = k0 then 0 else f k) = sumk n f - 1 := by
  by_cases he : ∃ k0 : Int, 0 ≤ k0 ∧ k0 < n ∧ f k0 = 1
  · obtain ⟨k0, h1, h2, h3⟩ := he
    refine ⟨k0, h1, h2, h3, ?_⟩
    have := (sumk_1 (f := f) (g := fun k => if k = k0 then 0 else f k) (j := k0) (v := 1) n h1 (fun k _ hne => (if_neg hne).symm) (by rw [h3]; simp)).1 h2
    omega
  · have : sumk n f = sumk n (fun _ => 0) := sumk_e n (fun k h1 h2 => by
      rcases hf k h1 h2 with h | h
      · exact h
      · exact absurd ⟨k, h1, h2, h⟩ he)
    rw [sumk_0] at this
    omega
theorem sum_none {f : Int → Int} {n : Nat} (hf : ∀ k : Int, 0 ≤ k → k < n → f k = 0 ∨ f k = 1) (hs : sumk n f = 0) : ∀ k : Int, 0 ≤ k → k < n → f k = 0 := by
  intro k h1 h2
  rcases hf k h1 h2 with h | h
  · exact h
  · have := (sumk_1 (f := f) (g := fun j => if j = k then 0 else f j) (j := k) (v := 1) n h1 (fun j _ hne => (if_neg hne).symm) (by rw [h]; simp)).1 h2
    have b := sumk_b (g := fun j => if j = k then 0 else f j) (B := 1) n (fun j j0 j1 => by
      rcases hf j j0 j1 with q | q
      · split <;> omega
      · split <;> omega)
    omega
/-- the place of a square's bit -/
def tau (k : Int) : Nat := (7 * (k % 7) + k / 7).toNat
theorem Bits_D {D : Int64} {a : Nat → Int} (hB : Bits D a) (hz : ∀ k : Int, 24 ≤ k → k < 73 → a k.toNat = 0 ∨ a k.toNat = 1) (h3 : Sbad a ≤ 3) : bcv D = Sbad a ∧ 0 ≤ Sbad a := by
  have hf0 : ∀ k : Int, 0 ≤ k → k < 49 → a (24 + k).toNat = 0 ∨ a (24 + k).toNat = 1 := fun k k0 k1 => hz (24 + k) (by omega) (by omega)
  -- a bit is set just where the square is bad
  have hbit : ∀ m : Nat, m < 64 → (D.toBitVec.getLsbD m = true ↔ m < 49 ∧ a (24 + (7 * ((m % 7 : Nat) : Int) + ((m / 7 : Nat) : Int))).toNat = 1) := by
    intro m hm
    by_cases h : m < 49
    · have := hB.1 (m % 7 : Nat) (m / 7 : Nat) (by omega) (by omega) (by omega) (by omega)
      rw [show (7 * ((m / 7 : Nat) : Int) + ((m % 7 : Nat) : Int)).toNat = m by omega, show (24 + 7 * ((m % 7 : Nat) : Int) + ((m / 7 : Nat) : Int)) = 24 + (7 * ((m % 7 : Nat) : Int) + ((m / 7 : Nat) : Int)) by omega] at this
      rw [this]
      exact ⟨fun q => ⟨h, q⟩, fun q => q.2⟩
    · rw [hB.2 m (by omega)]
      simp [h]
  have ext : ∀ B : BitVec 64, (∀ m : Nat, m < 64 → (D.toBitVec.getLsbD m = true ↔ B.getLsbD m = true)) → D = Int64.ofBitVec B := by
    intro B h
    apply Int64.toBitVec_inj.mp
    apply BitVec.eq_of_getLsbD_eq
    intro m hm
    have := h m hm
    show D.toBitVec.getLsbD m = B.getLsbD m
    cases h1 : D.toBitVec.getLsbD m <;> cases h2 : B.getLsbD m <;> simp_all
  have bs := sumk_b (g := fun k => a (24 + k).toNat) (B := 1) 49 (fun k k0 k1 => by rcases hf0 k k0 k1 with q | q <;> omega)
  have hS : sumk 49 (fun k => a (24 + k).toNat) = Sbad a := rfl
  refine ⟨?_, bs.1⟩
  by_cases s0 : Sbad a = 0
  · have hn := sum_none (f := fun k => a (24 + k).toNat) (n := 49) hf0 s0
    rw [s0, ext (0#64) (fun m hm => by
      rw [hbit m hm]
      have := hn (7 * ((m % 7 : Nat) : Int) + ((m / 7 : Nat) : Int))
      simp only [BitVec.getLsbD_zero, Bool.false_eq_true, iff_false]
      omega)]
    exact bc_0
  obtain ⟨k1, a1, b1, c1, e1⟩ := sum_one (f := fun k => a (24 + k).toNat) (n := 49) hf0 (by omega)
  (try dsimp only at c1 e1)
  have hf1 : ∀ k : Int, 0 ≤ k → k < 49 → (if k = k1 then 0 else a (24 + k).toNat) = 0 ∨ (if k = k1 then 0 else a (24 + k).toNat) = 1 := fun k k0 k1 => by
    split
    · exact Or.inl rfl
    · exact hf0 k k0 k1
  by_cases s1 : Sbad a = 1
  · have hn := sum_none (f := fun k => if k = k1 then 0 else a (24 + k).toNat) (n := 49) hf1 (by omega)
    rw [s1, ext (tp (tau k1)) (fun m hm => by
      rw [hbit m hm, tp_b _ _ (by unfold tau; omega) hm, decide_eq_true_iff]
      unfold tau
      constructor
      · rintro ⟨q1, q2⟩
        have := hn (7 * ((m % 7 : Nat) : Int) + ((m / 7 : Nat) : Int)) (by omega) (by omega)
        (try dsimp only at this)
        split at this
        · omega
        · omega
      · intro q
        rw [show 7 * ((m % 7 : Nat) : Int) + ((m / 7 : Nat) : Int) = k1 by omega]
        exact ⟨by omega, c1⟩)]
    exact eq_of_beq (all_o bc_1 (show tau k1 < 49 by unfold tau; omega))
  obtain ⟨k2, a2, b2, c2, e2⟩ := sum_one (f := fun k => if k = k1 then 0 else a (24 + k).toNat) (n := 49) hf1 (by omega)
  (try dsimp only at c2 e2)
  have d12 : k2 ≠ k1 := fun q => by rw [if_pos q] at c2; omega
  rw [if_neg d12] at c2
  have hf2 : ∀ k : Int, 0 ≤ k → k < 49 → (if k = k2 then 0 else if k = k1 then 0 else a (24 + k).toNat) = 0 ∨ (if k = k2 then 0 else if k = k1 then 0 else a (24 + k).toNat) = 1 := fun k k0 k1 => by
    split
    · exact Or.inl rfl
    · exact hf1 k k0 k1
  by_cases s2 : Sbad a = 2
  · have hn := sum_none (f := fun k => if k = k2 then 0 else if k = k1 then 0 else a (24 + k).toNat) (n := 49) hf2 (by omega)
    rw [s2, ext (tp (tau k1) ||| tp (tau k2)) (fun m hm => by
      rw [hbit m hm, BitVec.getLsbD_or, tp_b _ _ (by unfold tau; omega) hm, tp_b _ _ (by unfold tau; omega) hm, Bool.or_eq_true, decide_eq_true_iff, decide_eq_true_iff]
      unfold tau
      constructor
      · rintro ⟨q1, q2⟩
        have := hn (7 * ((m % 7 : Nat) : Int) + ((m / 7 : Nat) : Int)) (by omega) (by omega)
        (try dsimp only at this)
        split at this
        · omega
        · split at this
          · omega
          · omega
      · rintro (q | q)
        · rw [show 7 * ((m % 7 : Nat) : Int) + ((m / 7 : Nat) : Int) = k1 by omega]
          exact ⟨by omega, c1⟩
        · rw [show 7 * ((m % 7 : Nat) : Int) + ((m / 7 : Nat) : Int) = k2 by omega]
          exact ⟨by omega, c2⟩)]
    exact bc_2' (by unfold tau; omega) (by unfold tau; omega) (by unfold tau; omega)
  obtain ⟨k3, a3, b3, c3, e3⟩ := sum_one (f := fun k => if k = k2 then 0 else if k = k1 then 0 else a (24 + k).toNat) (n := 49) hf2 (by omega)
  (try dsimp only at c3 e3)
  have d23 : k3 ≠ k2 := fun q => by rw [if_pos q] at c3; omega
  rw [if_neg d23] at c3
  have d13 : k3 ≠ k1 := fun q => by rw [if_pos q] at c3; omega
  rw [if_neg d13] at c3
  have hf3 : ∀ k : Int, 0 ≤ k → k < 49 → (if k = k3 then 0 else if k = k2 then 0 else if k = k1 then 0 else a (24 + k).toNat) = 0 ∨ (if k = k3 then 0 else if k = k2 then 0 else if k = k1 then 0 else a (24 + k).toNat) = 1 := fun k k0 k1 => by
    split
    · exact Or.inl rfl
    · exact hf2 k k0 k1
  have s3 : Sbad a = 3 := by omega
  have hn := sum_none (f := fun k => if k = k3 then 0 else if k = k2 then 0 else if k = k1 then 0 else a (24 + k).toNat) (n := 49) hf3 (by omega)
  rw [s3, ext (tp (tau k1) ||| tp (tau k2) ||| tp (tau k3)) (fun m hm => by
    rw [hbit m hm, BitVec.getLsbD_or, BitVec.getLsbD_or, tp_b _ _ (by unfold tau; omega) hm, tp_b _ _ (by unfold tau; omega) hm, tp_b _ _ (by unfold tau; omega) hm, Bool.or_eq_true, Bool.or_eq_true, decide_eq_true_iff, decide_eq_true_iff, decide_eq_true_iff]
    unfold tau
    constructor
    · rintro ⟨q1, q2⟩
      have := hn (7 * ((m % 7 : Nat) : Int) + ((m / 7 : Nat) : Int)) (by omega) (by omega)
      (try dsimp only at this)
      split at this
      · omega
      · split at this
        · omega
        · split at this
          · omega
          · omega
    · rintro ((q | q) | q)
      · rw [show 7 * ((m % 7 : Nat) : Int) + ((m / 7 : Nat) : Int) = k1 by omega]
        exact ⟨by omega, c1⟩
      · rw [show 7 * ((m % 7 : Nat) : Int) + ((m / 7 : Nat) : Int) = k2 by omega]
        exact ⟨by omega, c2⟩
      · rw [show 7 * ((m % 7 : Nat) : Int) + ((m / 7 : Nat) : Int) = k3 by omega]
        exact ⟨by omega, c3⟩)]
  exact bc_3' (by unfold tau; omega) (by unfold tau; omega) (by unfold tau; omega) (by unfold tau; omega) (by unfold tau; omega) (by unfold tau; omega)
/-- a square becomes bad -/
theorem Bits_put {D : Int64} {a : Nat → Int} (hB : Bits D a) {x y : Int} (hx : 0 ≤ x) (hx7 : x < 7) (hy : 0 ≤ y) (hy7 : y < 7) : Bits (D ||| sqv x y 1 1) (qU a (24 + 7 * x + y).toNat 1) := by
  refine ⟨fun i j i0 i1 j0 j1 => ?_, fun k hk => ?_⟩
  · rw [Int64.toBitVec_or, BitVec.getLsbD_or, Bool.or_eq_true, sqv_b hx hy (by omega) (by omega) (by omega) (by omega) _ (by omega), decide_eq_true_iff]
    by_cases e : i = x ∧ j = y
    · rw [e.1, e.2, qU_same]
      exact ⟨fun _ => rfl, fun _ => Or.inr (by omega)⟩
    · rw [qU_ne (by omega), hB.1 i j i0 i1 j0 j1]
      constructor
      · rintro (q | q)
        · exact q
        · omega
      · exact Or.inl
  · by_cases h64 : k < 64
    · rw [Int64.toBitVec_or, BitVec.getLsbD_or, hB.2 k hk, sqv_b hx hy (by omega) (by omega) (by omega) (by omega) _ h64]
      simp
      omega
    · exact BitVec.getLsbD_of_ge _ _ (by omega)
theorem Bits_sq {D : Int64} {a : Nat → Int} (hB : Bits D a) {x y : Int} (hx : 0 ≤ x) (hx7 : x < 7) (hy : 0 ≤ y) (hy7 : y < 7) : D &&& sqv x y 1 1 = 0 ↔ ¬ a (24 + 7 * x + y).toNat = 1 := by
  rw [Bits_clr hB hx hy (by omega) (by omega) (by omega) (by omega)]
  constructor
  · intro h
    exact h x y (by omega) (by omega) (by omega) (by omega)
  · intro h i j i0 i1 j0 j1
    rw [show i = x by omega, show j = y by omega]
    exact h
