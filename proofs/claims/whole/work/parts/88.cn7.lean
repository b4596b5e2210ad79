/-! ===== the first heap: its cells by names, the world that the constructors leave ===== -/
def cnF (b : Nat) (j : Nat) : Option Nat := if j < 6 then some (b + j) else none
def cnA (j : Nat) : Int := if j = 0 ∨ j = 1 then 4 else 0
def cnSo (j : Nat) : Int := if j < 6 then -1 else 0
def cnCells : List qC := [pob 0 0, .inl (3, [(.inr (.inr (some 3))), (.inr (.inr (some 9))), (.inr (.inr (some 10))), (.inr (.inr (some 11)))]), .inl (3, [(.inr (.inr (some 4))), (.inr (.inr (some 12))), (.inr (.inr (some 13))), (.inr (.inr (some 14)))]), .inl (2, [.inl 4, .inl 4, .inl 0, .inl 0, .inr (.inl 0), (.inr (.inr (some 6)))]), .inl (2, [.inl 4, .inl 4, .inl 0, .inl 0, .inr (.inl 0), (.inr (.inr (some 7)))]), .inl (2, [.inl 4, .inl 4, .inl 0, .inl 0, .inr (.inl 0), (.inr (.inr (some 8)))]), .inr (0, 20, .inl (fun _ => 0)), .inr (0, 20, .inl (fun _ => 0)), .inr (0, 20, .inl (fun _ => 0)), .inl (1, [(.inr (.inr (some 15))), .inl 0]), .inl (1, [(.inr (.inr (some 16))), .inl 0]), .inl (1, [(.inr (.inr (some 17))), .inl 0]), .inl (1, [(.inr (.inr (some 18))), .inl 0]), .inl (1, [(.inr (.inr (some 19))), .inl 0]), .inl (1, [(.inr (.inr (some 20))), .inl 0]), .inr (0, 10, .inl (fun _ => 0)), .inr (0, 16, .inl (fun _ => 0)), .inr (0, 16, .inl (fun _ => 0)), .inr (0, 10, .inl (fun _ => 0)), .inr (0, 16, .inl (fun _ => 0)), .inr (0, 16, .inl (fun _ => 0)), .inl (0, [(.inr (.inr (some 3))), (.inr (.inr (some 23))), (.inr (.inr (some 27))), (.inr (.inr (some 29))), .inl 0, .inl 0, .inl 0, .inl 0, .inl 0]), .inl (0, [(.inr (.inr (some 5))), (.inr (.inr (some 24))), (.inr (.inr (some 28))), (.inr (.inr (some 30))), .inl 0, .inl 0, .inl 0, .inl 0, .inl 0]), .inl (6, [(.inr (.inr (some 3))), (.inr (.inr (some 25)))]), .inl (6, [(.inr (.inr (some 5))), (.inr (.inr (some 26)))]), .inr (0, 784, .inl (fun _ => 0)), .inr (0, 784, .inl (fun _ => 0)), .inr (0, 776, .inl (fun _ => 0)), .inr (0, 776, .inl (fun _ => 0)), .inr (0, 5, .inl (fun _ => 0)), .inr (0, 5, .inl (fun _ => 0)), .inl (5, [(.inr (.inr (some 32))), .inl 0]), .inr (1, 100, .inl (fun _ => 0)), .inr (3, 6, .inr (.inr (cnF 34))), .inl (4, [(.inr (.inr (some 40))), .inl (-1), .inl 0]), .inl (4, [(.inr (.inr (some 41))), .inl (-1), .inl 0]), .inl (4, [(.inr (.inr (some 42))), .inl (-1), .inl 0]), .inl (4, [(.inr (.inr (some 43))), .inl (-1), .inl 0]), .inl (4, [(.inr (.inr (some 44))), .inl (-1), .inl 0]), .inl (4, [(.inr (.inr (some 45))), .inl (-1), .inl 0]), .inr (2, 60, .inr (.inl (fun _ => 0))), .inr (2, 60, .inr (.inl (fun _ => 0))), .inr (2, 60, .inr (.inl (fun _ => 0))), .inr (2, 60, .inr (.inl (fun _ => 0))), .inr (2, 60, .inr (.inl (fun _ => 0))), .inr (2, 60, .inr (.inl (fun _ => 0))), mob 0 0 0 0, .inr (0, 118, .inl cnA), .inr (0, 118, .inl (fun _ => 0)), .inr (0, 118, .inl (fun _ => 0)), .inr (0, 100, .inl (fun _ => 0)), .inr (0, 12, .inl (fun _ => 0)), .inr (0, 4096, .inl (fun _ => 0)), .inr (0, 1024, .inl (fun _ => 0)), .inr (0, 4096, .inl (fun _ => 0)), .inr (0, 6, .inl cnSo), .inr (0, 6, .inl (fun _ => 0)), .inr (4, 6, .inr (.inr (cnF 58))), .inr (2, 60, .inr (.inl (fun _ => 0))), .inr (2, 60, .inr (.inl (fun _ => 0))), .inr (2, 60, .inr (.inl (fun _ => 0))), .inr (2, 60, .inr (.inl (fun _ => 0))), .inr (2, 60, .inr (.inl (fun _ => 0))), .inr (2, 60, .inr (.inl (fun _ => 0))), .inr (2, 60, .inr (.inl (fun _ => 0)))]
def cnH (L : Nat) (xs : Nat → Int32) : qH := fun n => if n < 65 then qnth cnCells n (.inl (999, [])) else qro L xs n
theorem cnH_lo {L : Nat} {xs : Nat → Int32} {n : Nat} (h : n < 65) : cnH L xs n = qnth cnCells n (.inl (999, [])) := if_pos h
theorem cnH_hi {L : Nat} {xs : Nat → Int32} {n : Nat} (h : 65 ≤ n) : cnH L xs n = qro L xs n := if_neg (Nat.not_lt.mpr h)
abbrev cnAl (αr : Nat → Nat) (as : List Nat) : Nat → Nat := fun n => if n < 65 then qnth as n 0 else αr n
theorem cn_fa : (upd (upd (fun _ => 0) (0 : Int32).toNatClampNeg (4)) (1 : Int32).toNatClampNeg (4)) = fun j => Int32.ofInt (cnA j) := by
  funext j
  by_cases h0 : j = 0
  · subst h0; rfl
  · by_cases h1 : j = 1
    · subst h1; rfl
    · have e : cnA j = 0 := if_neg (by omega)
      rw [e]
      show (if j = 1 then _ else if j = 0 then _ else _) = _
      rw [if_neg h1, if_neg h0]
      rfl
theorem cn_fs : (upd (upd (upd (upd (upd (upd (fun _ => 0) (0 : Int32).toNatClampNeg (-1)) (1 : Int32).toNatClampNeg (-1)) (2 : Int32).toNatClampNeg (-1)) (3 : Int32).toNatClampNeg (-1)) (4 : Int32).toNatClampNeg (-1)) (5 : Int32).toNatClampNeg (-1)) = fun j => Int32.ofInt (cnSo j) := by
  funext j
  by_cases h : j < 6
  · rcases (show j = 0 ∨ j = 1 ∨ j = 2 ∨ j = 3 ∨ j = 4 ∨ j = 5 by omega) with rfl | rfl | rfl | rfl | rfl | rfl <;> rfl
  · have e : cnSo j = 0 := if_neg h
    rw [e]
    show (if j = 5 then _ else if j = 4 then _ else if j = 3 then _ else if j = 2 then _ else if j = 1 then _ else if j = 0 then _ else _) = _
    rw [if_neg (by omega), if_neg (by omega), if_neg (by omega), if_neg (by omega), if_neg (by omega), if_neg (by omega)]
    rfl
theorem cn_ft {α : Nat → Nat} {aq7 aq8 aq9 aq10 aq11 aq12 : Nat} (h : ∀ i, i < 6 → α (34 + i) = qnth [aq7, aq8, aq9, aq10, aq11, aq12] i 0) : (va_up (va_up (va_up (va_up (va_up (va_up (fun _ => none) (0 : Int32).toNatClampNeg (some aq7)) (1 : Int32).toNatClampNeg (some aq8)) (2 : Int32).toNatClampNeg (some aq9)) (3 : Int32).toNatClampNeg (some aq10)) (4 : Int32).toNatClampNeg (some aq11)) (5 : Int32).toNatClampNeg (some aq12)) = fun j => (cnF 34 j).map α := by
  funext j
  by_cases hj : j < 6
  · rw [show cnF 34 j = some (34 + j) from if_pos hj]
    show _ = some (α (34 + j))
    rw [h j hj]
    rcases (show j = 0 ∨ j = 1 ∨ j = 2 ∨ j = 3 ∨ j = 4 ∨ j = 5 by omega) with rfl | rfl | rfl | rfl | rfl | rfl <;> rfl
  · rw [show cnF 34 j = none from if_neg hj]
    show (if j = 5 then _ else if j = 4 then _ else if j = 3 then _ else if j = 2 then _ else if j = 1 then _ else if j = 0 then _ else _) = _
    rw [if_neg (by omega), if_neg (by omega), if_neg (by omega), if_neg (by omega), if_neg (by omega), if_neg (by omega)]
    rfl
theorem cn_fg {α : Nat → Nat} {q : Nat} (h : ∀ i, i < 6 → α (58 + i) = q + (i + 1)) : cnGF q = fun j => (cnF 58 j).map α := by
  funext j
  by_cases hj : j < 6
  · rw [show cnF 58 j = some (58 + j) from if_pos hj, show cnGF q j = some (q + (j + 1)) from if_pos hj]
    show _ = some (α (58 + j))
    rw [h j hj]
  · rw [show cnF 58 j = none from if_neg hj, show cnGF q j = none from if_neg hj]
    rfl
def cnIS : List Nat := (0 :: 1 :: 10 :: 2 :: 11 :: 24 :: 3 :: 12 :: 25 :: 4 :: 6 :: 8 :: 13 :: 15 :: 17 :: 5 :: 7 :: 9 :: 14 :: 16 :: 18 :: 19 :: 26 :: 22 :: 29 :: 23 :: 30 :: 20 :: 27 :: 21 :: 28 :: 31 :: 32 :: 33 :: 34 :: 36 :: 38 :: 40 :: 42 :: 44 :: 35 :: 37 :: 39 :: 41 :: 43 :: 45 :: 46 :: 47 :: 48 :: 49 :: 50 :: 51 :: 52 :: 53 :: 54 :: 55 :: 56 :: 57 :: 58 :: 59 :: 60 :: 61 :: 62 :: 63 :: 64 :: [])
set_option maxRecDepth 100000 in
abbrev cnAs (ah0 aq0 aq0_0 aq0_1 aq0_2 aq0_3 aq0_4 aq0_5 aq0_6 aq0_7 aq1 aq1_0 aq1_1 aq1_2 aq1_3 aq1_4 aq1_5 aq1_6 aq1_7 aq2 aq2_0 aq2_1 aq2_2 aq2_3 aq3 aq3_0 aq4 aq4_0 aq4_1 aq4_2 aq4_3 aq5 aq5_0 aq6 aq7 aq7_0 aq8 aq8_0 aq9 aq9_0 aq10 aq10_0 aq11 aq11_0 aq12 aq12_0 bh0 bq0 bq1 bq2 bq3 bq4 bq5 bq6 bq7 bq8 bq9 bq10 bq11 : Nat) : List Nat := (ah0) :: (aq0) :: (aq1) :: (aq0_0) :: (aq1_0) :: (aq3) :: (aq0_1) :: (aq1_1) :: (aq3_0) :: (aq0_2) :: (aq0_4) :: (aq0_6) :: (aq1_2) :: (aq1_4) :: (aq1_6) :: (aq0_3) :: (aq0_5) :: (aq0_7) :: (aq1_3) :: (aq1_5) :: (aq1_7) :: (aq2) :: (aq4) :: (aq2_2) :: (aq4_2) :: (aq2_3) :: (aq4_3) :: (aq2_0) :: (aq4_0) :: (aq2_1) :: (aq4_1) :: (aq5) :: (aq5_0) :: (aq6) :: (aq7) :: (aq8) :: (aq9) :: (aq10) :: (aq11) :: (aq12) :: (aq7_0) :: (aq8_0) :: (aq9_0) :: (aq10_0) :: (aq11_0) :: (aq12_0) :: (bh0) :: (bq0) :: (bq1) :: (bq2) :: (bq3) :: (bq4) :: (bq5) :: (bq6) :: (bq7) :: (bq8) :: (bq9) :: (bq10) :: (bq10 + 1) :: (bq10 + 2) :: (bq10 + 3) :: (bq10 + 4) :: (bq10 + 5) :: (bq10 + 6) :: (bq11) :: []
set_option maxHeartbeats 8000000 in
set_option maxRecDepth 100000 in
theorem cn_perm {cs : Nat → ClassId} {αr : Nat → Nat} {L : Nat} {xs : Nat → Int32} {ah0 aq0 aq0_0 aq0_1 aq0_2 aq0_3 aq0_4 aq0_5 aq0_6 aq0_7 aq1 aq1_0 aq1_1 aq1_2 aq1_3 aq1_4 aq1_5 aq1_6 aq1_7 aq2 aq2_0 aq2_1 aq2_2 aq2_3 aq3 aq3_0 aq4 aq4_0 aq4_1 aq4_2 aq4_3 aq5 aq5_0 aq6 aq7 aq7_0 aq8 aq8_0 aq9 aq9_0 aq10 aq10_0 aq11 aq11_0 aq12 aq12_0 bh0 bq0 bq1 bq2 bq3 bq4 bq5 bq6 bq7 bq8 bq9 bq10 bq11 : Nat} {fa fs : Nat → Int32} {ft fg : Nat → Option Nat} (hfa : fa = fun j => Int32.ofInt (cnA j)) (hfs : fs = fun j => Int32.ofInt (cnSo j)) (hft : ft = fun j => (cnF 34 j).map (cnAl αr (cnAs ah0 aq0 aq0_0 aq0_1 aq0_2 aq0_3 aq0_4 aq0_5 aq0_6 aq0_7 aq1 aq1_0 aq1_1 aq1_2 aq1_3 aq1_4 aq1_5 aq1_6 aq1_7 aq2 aq2_0 aq2_1 aq2_2 aq2_3 aq3 aq3_0 aq4 aq4_0 aq4_1 aq4_2 aq4_3 aq5 aq5_0 aq6 aq7 aq7_0 aq8 aq8_0 aq9 aq9_0 aq10 aq10_0 aq11 aq11_0 aq12 aq12_0 bh0 bq0 bq1 bq2 bq3 bq4 bq5 bq6 bq7 bq8 bq9 bq10 bq11))) (hfg : fg = fun j => (cnF 58 j).map (cnAl αr (cnAs ah0 aq0 aq0_0 aq0_1 aq0_2 aq0_3 aq0_4 aq0_5 aq0_6 aq0_7 aq1 aq1_0 aq1_1 aq1_2 aq1_3 aq1_4 aq1_5 aq1_6 aq1_7 aq2 aq2_0 aq2_1 aq2_2 aq2_3 aq3 aq3_0 aq4 aq4_0 aq4_1 aq4_2 aq4_3 aq5 aq5_0 aq6 aq7 aq7_0 aq8 aq8_0 aq9 aq9_0 aq10 aq10_0 aq11 aq11_0 aq12 aq12_0 bh0 bq0 bq1 bq2 bq3 bq4 bq5 bq6 bq7 bq8 bq9 bq10 bq11))) :
    (cnIS.map (fun i => (((ah0, .inr (7, [.ref aq0, .ref aq1, .int 0, .ref aq2, .int 0, .ref aq3, .ref aq4, .ref aq5, .ref aq6])) :: (aq0, .inr (3, [.ref aq0_0, .ref aq0_2, .ref aq0_4, .ref aq0_6])) :: (aq0_0, .inr (2, [.int 4, .int 4, .int 0, .int 0, .long 0, .ref aq0_1])) :: (aq0_1, cnI cs 20) :: (aq0_2, .inr (1, [.ref aq0_3, .int 0])) :: (aq0_3, cnI cs 10) :: (aq0_4, .inr (1, [.ref aq0_5, .int 0])) :: (aq0_5, cnI cs 16) :: (aq0_6, .inr (1, [.ref aq0_7, .int 0])) :: (aq0_7, cnI cs 16) :: (aq1, .inr (3, [.ref aq1_0, .ref aq1_2, .ref aq1_4, .ref aq1_6])) :: (aq1_0, .inr (2, [.int 4, .int 4, .int 0, .int 0, .long 0, .ref aq1_1])) :: (aq1_1, cnI cs 20) :: (aq1_2, .inr (1, [.ref aq1_3, .int 0])) :: (aq1_3, cnI cs 10) :: (aq1_4, .inr (1, [.ref aq1_5, .int 0])) :: (aq1_5, cnI cs 16) :: (aq1_6, .inr (1, [.ref aq1_7, .int 0])) :: (aq1_7, cnI cs 16) :: (aq2, .inr (0, [.ref aq0_0, .ref aq2_2, .ref aq2_0, .ref aq2_1, .int 0, .int 0, .int 0, .int 0, .int 0])) :: (aq2_0, cnI cs 776) :: (aq2_1, cnI cs 5) :: (aq2_2, .inr (6, [.ref aq0_0, .ref aq2_3])) :: (aq2_3, cnI cs 784) :: (aq3, .inr (2, [.int 4, .int 4, .int 0, .int 0, .long 0, .ref aq3_0])) :: (aq3_0, cnI cs 20) :: (aq4, .inr (0, [.ref aq3, .ref aq4_2, .ref aq4_0, .ref aq4_1, .int 0, .int 0, .int 0, .int 0, .int 0])) :: (aq4_0, cnI cs 776) :: (aq4_1, cnI cs 5) :: (aq4_2, .inr (6, [.ref aq3, .ref aq4_3])) :: (aq4_3, cnI cs 784) :: (aq5, .inr (5, [.ref aq5_0, .int 0])) :: (aq5_0, cnB cs 100) :: (aq6, .inl (cs 3, 6, .inr (.inr (.inr (.inr ft))))) :: (aq7, .inr (4, [.ref aq7_0, .int (-1), .int 0])) :: (aq7_0, cnL cs 60) :: (aq8, .inr (4, [.ref aq8_0, .int (-1), .int 0])) :: (aq8_0, cnL cs 60) :: (aq9, .inr (4, [.ref aq9_0, .int (-1), .int 0])) :: (aq9_0, cnL cs 60) :: (aq10, .inr (4, [.ref aq10_0, .int (-1), .int 0])) :: (aq10_0, cnL cs 60) :: (aq11, .inr (4, [.ref aq11_0, .int (-1), .int 0])) :: (aq11_0, cnL cs 60) :: (aq12, .inr (4, [.ref aq12_0, .int (-1), .int 0])) :: (aq12_0, cnL cs 60) :: [] : va_W) ++ ((bh0, .inr (8, [.ref bq0, .ref bq1, .ref bq2, .int 0, .ref bq3, .int 0, .ref bq4, .int 0, .ref bq5, .ref bq6, .int 0, .ref bq7, .ref bq8, .ref bq9, .ref bq10, .ref bq11])) :: (bq0, .inl (cs 0, 118, .inl fa)) :: (bq1, cnI cs 118) :: (bq2, cnI cs 118) :: (bq3, cnI cs 100) :: (bq4, cnI cs 12) :: (bq5, cnI cs 4096) :: (bq6, cnI cs 1024) :: (bq7, cnI cs 4096) :: (bq8, .inl (cs 0, 6, .inl fs)) :: (bq9, cnI cs 6) :: (bq10, .inl (cs 4, 6, .inr (.inr (.inr (.inr fg))))) :: (bq10 + 1, cnL cs 60) :: (bq10 + 2, cnL cs 60) :: (bq10 + 3, cnL cs 60) :: (bq10 + 4, cnL cs 60) :: (bq10 + 5, cnL cs 60) :: (bq10 + 6, cnL cs 60) :: (bq11, cnL cs 60) :: [] : va_W))[i]?)) = (qws (cnAl αr (cnAs ah0 aq0 aq0_0 aq0_1 aq0_2 aq0_3 aq0_4 aq0_5 aq0_6 aq0_7 aq1 aq1_0 aq1_1 aq1_2 aq1_3 aq1_4 aq1_5 aq1_6 aq1_7 aq2 aq2_0 aq2_1 aq2_2 aq2_3 aq3 aq3_0 aq4 aq4_0 aq4_1 aq4_2 aq4_3 aq5 aq5_0 aq6 aq7 aq7_0 aq8 aq8_0 aq9 aq9_0 aq10 aq10_0 aq11 aq11_0 aq12 aq12_0 bh0 bq0 bq1 bq2 bq3 bq4 bq5 bq6 bq7 bq8 bq9 bq10 bq11)) cs (cnH L xs)).map some := by
  subst hfa; subst hfs; subst hft; subst hfg
  rfl
/-! ===== the first state: the class's cells and the reference's cells hold one state ===== -/
theorem cnA_0 {k : Nat} (h : 2 ≤ k) : cnA k = 0 := if_neg (by omega)
theorem cn_Bits : Bits 0 cnA := by
  refine ⟨fun i j i0 i1 j0 j1 => ?_, fun k hk => ?_⟩
  · rw [cnA_0 (k := (24 + 7 * i + j).toNat) (by omega)]
    have e : (0 : Int64).toBitVec = 0#64 := rfl
    rw [e, BitVec.getLsbD_zero]
    exact ⟨fun h => absurd h (by decide), fun h => absurd h (by decide)⟩
  · have e : (0 : Int64).toBitVec = 0#64 := rfl
    rw [e, BitVec.getLsbD_zero]
theorem cn_WX : WX cnA := by
  have z : ∀ k : Nat, 2 ≤ k → cnA k = 0 := fun k h => cnA_0 h
  have z0 : cnA 0 = 4 := rfl
  have z1 : cnA 1 = 4 := rfl
  refine ⟨⟨⟨by rw [z0]; decide, by rw [z0]; decide⟩, ⟨by rw [z1]; decide, by rw [z1]; decide⟩, ⟨by rw [z 2 (by decide)]; decide, by rw [z 2 (by decide)]; decide⟩, ⟨by rw [z 3 (by decide)]; decide, by rw [z 3 (by decide)]; decide⟩, fun p p0 p1 => ?_, fun k k0 k1 => Or.inl (z _ (by omega))⟩, ?_, ⟨⟨by rw [z 73 (by decide)]; decide, by rw [z 73 (by decide)]; decide⟩, fun i i0 i1 => ?_⟩, ⟨⟨by rw [z 84 (by decide)]; decide, by rw [z 84 (by decide)]; decide⟩, fun i i0 i1 => ?_⟩, ⟨⟨by rw [z 101 (by decide)]; decide, by rw [z 101 (by decide)]; decide⟩, fun i i0 i1 => ?_⟩⟩
  · rw [z 3 (by decide)] at p1
    exact absurd p1 (by omega)
  · show sumk 49 (fun k => cnA (24 + k).toNat) ≤ 3
    rw [sumk_e (g := fun _ => 0) 49 (fun k k0 k1 => z _ (by omega)), sumk_0]
    decide
  · rw [z 73 (by decide)] at i1
    exact absurd i1 (by omega)
  · rw [z 84 (by decide)] at i1
    exact absurd i1 (by omega)
  · rw [z 101 (by decide)] at i1
    exact absurd i1 (by omega)
theorem cn_six : ∀ i : Nat, i < 6 → i = 0 ∨ i = 1 ∨ i = 2 ∨ i = 3 ∨ i = 4 ∨ i = 5 := fun i h => by omega
theorem cn_ro {h : qH} {ro pr n at' : Nat} {b1 b2 : Int} (h0 : 2 ≤ at') (h1 : h ro = .inl (1, [(.inr (.inr (some pr))), .inl 0])) (h2 : h pr = .inr (0, 2 * n, .inl (fun _ => 0))) : RowsR h ro pr n cnA at' b1 b2 := by
  have e : cnA at' = 0 := cnA_0 h0
  refine ⟨by rw [e]; exact h1, _, h2, fun i i0 i1 => ?_⟩
  rw [e] at i1
  exact absurd i1 (by omega)
theorem cn_rs {h : qH} {su fa : Nat} (h1 : h su = .inl (2, [.inl 4, .inl 4, .inl 0, .inl 0, .inr (.inl 0), (.inr (.inr (some fa)))])) (h2 : h fa = .inr (0, 20, .inl (fun _ => 0))) : RepS h su fa cnA 0 (fun _ => 0) := by
  refine ⟨h1, h2, fun p q p0 p1 => ?_, cn_Bits⟩
  rw [cnA_0 (k := 3) (by decide)] at p1
  exact absurd p1 (by omega)
section CNL
variable {L : Nat} {xs : Nat → Int32}
theorem cn_CS : CS (cnH L xs) (cnA, fun _ => 0, 0, 0, fun _ => 0, cnSo, fun _ => 0, fun _ _ => 0) := by
  refine ⟨0, Or.inl rfl, rfl, ⟨rfl, ⟨_, _, cn_rs rfl rfl⟩, cn_ro (by decide) rfl rfl, cn_ro (by decide) rfl rfl, cn_ro (by decide) rfl rfl⟩, ⟨cnA, ⟨rfl, ⟨_, _, cn_rs rfl rfl⟩, cn_ro (by decide) rfl rfl, cn_ro (by decide) rfl rfl, cn_ro (by decide) rfl rfl⟩, fun h => absurd h (by decide)⟩, ⟨⟨0, 0, 0, 0, 0, _, _, _, rfl, rfl, rfl, rfl, rfl⟩, fun h => absurd h (by decide)⟩, ⟨⟨4, 4, 0, 0, 0, _, rfl, rfl⟩, ⟨0, 0, 0, 0, 0, _, _, _, rfl, rfl, rfl, rfl, rfl⟩⟩, ⟨rfl, _, rfl, fun k hk => rfl⟩, ⟨⟨_, rfl, fun i hi => if_pos hi⟩, fun i hi => ?_⟩, rfl⟩
  rcases cn_six i hi with rfl | rfl | rfl | rfl | rfl | rfl <;> exact ⟨rfl, _, rfl, fun k hk => rfl⟩
theorem cn_RS : RS (cnH L xs) (cnA, fun _ => 0, 0, 0, fun _ => 0, cnSo, fun _ => 0, fun _ _ => 0) := by
  refine ⟨⟨0, 0, rfl⟩, rfl, rfl, ⟨_, rfl⟩, rfl, ⟨_, rfl⟩, ⟨_, rfl⟩, ⟨_, rfl⟩, ⟨_, rfl⟩, rfl, rfl, ⟨_, rfl, fun i hi => if_pos hi⟩, fun i hi => ?_, ⟨_, rfl⟩⟩
  rcases cn_six i hi with rfl | rfl | rfl | rfl | rfl | rfl <;> rfl
theorem cn_WS : WS (cnA, fun _ => 0, 0, 0, fun _ => 0, cnSo, fun _ => 0, fun _ _ => 0) := by
  refine ⟨cn_WX, Or.inl rfl, fun h => absurd h (by decide), ⟨by decide, by decide⟩, fun k => ⟨Int.le_refl 0, show (0 : Int) ≤ 127 by decide⟩, fun i hi => ?_⟩
  have e : cnSo i = -1 := if_pos hi
  show (-1 ≤ cnSo i ∧ cnSo i ≤ 4) ∧ ((0 : Int) ≤ 0 ∧ (0 : Int) ≤ 60) ∧ (cnSo i = -1 → (0 : Int) = 0)
  rw [e]
  exact ⟨⟨by decide, by decide⟩, ⟨by decide, by decide⟩, fun _ => rfl⟩
theorem cn_LR : LR L xs (cnH L xs) := ⟨⟨_, cn_CS, cn_RS, cn_WS⟩, fun n hn => cnH_hi hn⟩
end CNL
theorem cn_fm {β : Type} {f : Nat → Option β} : ∀ (l : List Nat) (r : List β), l.map f = r.map some → l.filterMap f = r
  | [], [], _ => rfl
  | [], _ :: _, h => by cases h
  | _ :: _, [], h => by cases h
  | a :: l, b :: r, h => by
    simp only [List.map_cons, List.cons.injEq] at h
    rw [List.filterMap_cons, h.1]
    show b :: l.filterMap f = b :: r
    rw [cn_fm l r h.2]
