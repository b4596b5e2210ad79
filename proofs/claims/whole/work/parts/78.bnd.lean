/-! ===== every answer is an int's ===== -/
theorem lst_b {P : Int → Prop} (n : Nat) (i : Int) (hi : 0 ≤ i) : -5 ≤ lst P n i ∧ lst P n i ≤ i + n := by
  rcases lst_o (P := P) n i hi with h | h <;> omega
theorem Sq_b {a : Nat → Int} (hW : WF a) : 0 ≤ Sq (TR a) ∧ Sq (TR a) ≤ 49 * 97 := by
  have hl := TR_len hW
  have b0 := hW.1
  have b1 := hW.2.1
  have := sumk_b (g := fun j => if nd (TR a) j.toNat 0 = 1 then nd (TR a) j.toNat 3 * nd (TR a) j.toNat 4 else 0) (B := 49) (TR a).length (fun k k0 k1 => by
    obtain ⟨-, ⟨c1, c2, c3, c4, c5, c6⟩, -⟩ := nd_ok (TR_ok hW) k0 k1
    have := mulb (x := nd (TR a) k.toNat 3) (y := nd (TR a) k.toNat 4) (B := 7) (C := 7) (by omega) (by omega) (by omega) (by omega)
    split <;> omega)
  unfold Sq
  omega
theorem nd_b {a : Nat → Int} (hW : WF a) {j : Int} {q : Nat} (h0 : 0 ≤ j) (h1 : j < (TR a).length) (hq : q < 8) : -10000 ≤ nd (TR a) j.toNat q ∧ nd (TR a) j.toNat q ≤ 10000 := by
  have b0 := hW.1
  have b1 := hW.2.1
  obtain ⟨c0, ⟨c1, c2, c3, c4, c5, c6⟩, c7, c8, c9, -⟩ := nd_ok (TR_ok hW) h0 h1
  rcases (show q = 0 ∨ q = 1 ∨ q = 2 ∨ q = 3 ∨ q = 4 ∨ q = 5 ∨ q = 6 ∨ q = 7 by omega) with rfl | rfl | rfl | rfl | rfl | rfl | rfl | rfl <;> omega
theorem StF_b {K way : Int} (hK : 0 ≤ K) : ∀ (n : Nat) (T : qT), Bdd T → Bdd (StF K way n T)
  | 0, _, hT => hT
  | n + 1, _, hT => StF_b hK n _ (Stg_b hK hT)
section
variable {s : zS}
theorem b_plate {w hh : Int} (hW : WS s) : qin (spPlate w hh s).1 := by
  unfold spPlate
  split
  next h =>
    have := mul_b h.1.1 h.1.2 h.2.1 h.2.2
    dsimp only
    omega
  next => dsimp only; omega
theorem Sbad_b {a : Nat → Int} (hX : WX a) : 0 ≤ Sbad a ∧ Sbad a ≤ 3 := by
  have bs := sumk_b (g := fun k => a (24 + k).toNat) (B := 1) 49 (fun k k0 k1 => by rcases hX.1.2.2.2.2.2 (24 + k) (by omega) (by omega) with q | q <;> omega)
  exact ⟨bs.1, hX.2.1⟩
theorem b_kerf {z : Int} (hW : WS s) : qin (spKerf z s).1 := by
  obtain ⟨a, kp, ik, sg, tx, so, sz, rw⟩ := s
  have bK := hW.1.1.2.2.1
  unfold spKerf
  split <;> dsimp only <;> omega
theorem b_part {w hh v t : Int} (hW : WS s) : qin (spPart w hh v t s).1 := by
  obtain ⟨a, kp, ik, sg, tx, so, sz, rw⟩ := s
  have b3 := hW.1.1.2.2.2.1
  unfold spPart
  split
  · split <;> dsimp only <;> omega
  · dsimp only; omega
theorem prt_v {a : Nat → Int} (hW : WF a) {p q : Int} (p0 : 0 ≤ p) (p1 : p < a 3) (q0 : 0 ≤ q) (q1 : q < 4) : 0 ≤ a (4 + 5 * q + p).toNat ∧ a (4 + 5 * q + p).toNat ≤ 99 := by
  obtain ⟨c1, c2, c3, c4⟩ := hW.2.2.2.2.1 p p0 p1
  rcases (show q = 0 ∨ q = 1 ∨ q = 2 ∨ q = 3 by omega) with rfl | rfl | rfl | rfl
  · rw [show 4 + 5 * 0 + p = 4 + p by omega]; omega
  · rw [show 4 + 5 * 1 + p = 9 + p by omega]; omega
  · rw [show 4 + 5 * 2 + p = 14 + p by omega]; omega
  · rw [show 4 + 5 * 3 + p = 19 + p by omega]; omega
theorem b_renew {p q v : Int} (hW : WS s) : qin (spRenew p q v s).1 := by
  obtain ⟨a, kp, ik, sg, tx, so, sz, rw⟩ := s
  unfold spRenew
  dsimp only
  by_cases h : (0 ≤ p ∧ p < a 3) ∧ 0 ≤ q ∧ q ≤ 2
  · rw [if_pos h]
    have := prt_v hW.1.1 h.1.1 h.1.2 h.2.1 (show q < 4 by omega)
    by_cases h2 : 1 ≤ v ∧ v ≤ (if q = 2 then 99 else 7)
    · rw [if_pos h2]; dsimp only; omega
    · rw [if_neg h2]; dsimp only; omega
  · rw [if_neg h]; dsimp only; omega
theorem b_turn {p t : Int} (hW : WS s) : qin (spTurn p t s).1 := by
  obtain ⟨a, kp, ik, sg, tx, so, sz, rw⟩ := s
  unfold spTurn
  dsimp only
  by_cases h : 0 ≤ p ∧ p < a 3
  · rw [if_pos h]
    have := (hW.1.1.2.2.2.2.1 p h.1 h.2).2.2.2
    dsimp only
    omega
  · rw [if_neg h]; dsimp only; omega
theorem b_of {p q : Int} (hW : WS s) : qin (spOf p q s).1 := by
  obtain ⟨a, kp, ik, sg, tx, so, sz, rw⟩ := s
  unfold spOf
  dsimp only
  by_cases h : (0 ≤ p ∧ p < a 3) ∧ 0 ≤ q ∧ q ≤ 4
  · rw [if_pos h]
    by_cases h4 : q = 4
    · rw [if_pos h4]
      have := Us_b hW.1.1 p
      dsimp only
      omega
    · rw [if_neg h4]
      have := prt_v hW.1.1 h.1.1 h.1.2 h.2.1 (show q < 4 by omega)
      dsimp only
      omega
  · rw [if_neg h]; dsimp only; omega
theorem b_defect {x y : Int} (hW : WS s) : qin (spDefect x y s).1 := by
  obtain ⟨a, kp, ik, sg, tx, so, sz, rw⟩ := s
  have := Sbad_b hW.1
  unfold spDefect
  dsimp only
  split
  · split
    · dsimp only; omega
    · split <;> dsimp only <;> omega
  · dsimp only; omega
theorem b_mend (hW : WS s) : qin (spMend s).1 := by
  obtain ⟨a, kp, ik, sg, tx, so, sz, rw⟩ := s
  have := Sbad_b hW.1
  unfold spMend
  dsimp only
  omega
theorem b_feed {z : Int} (hW : WS s) : qin (spFeed z s).1 := by
  obtain ⟨a, kp, ik, sg, tx, so, sz, rw⟩ := s
  have := hW.2.2.2.1
  unfold spFeed
  dsimp only
  split
  · split <;> dsimp only <;> omega
  · dsimp only; omega
theorem b_read (hW : WS s) : qin (spRead s).1 := by
  obtain ⟨a, kp, ik, sg, tx, so, sz, rw⟩ := s
  have bs := hW.2.2.2.1
  have bF := pF_b (tx := tx) (sg := sg) 12 0 (by omega)
  have bl := pS_len (tx := tx) (sg := sg) 12 0
  have bd := doAll_b tx sg (pS tx sg 12 0) (a, kp, ik, sg, tx, so, sz, rw)
  unfold spRead
  dsimp only
  split <;> dsimp only <;> omega
theorem b_best {x y w hh : Int} (hW : WS s) : qin (spBest x y w hh s).1 := by
  obtain ⟨a, kp, ik, sg, tx, so, sz, rw⟩ := s
  have b0 := hW.1.1.1
  have b1 := hW.1.1.2.1
  unfold spBest
  dsimp only
  by_cases h : Pc a x y w hh
  · rw [if_pos h]
    obtain ⟨v1, v2, v3, v4, v5, v6⟩ := h
    have := Bs_b hW.1.1 (x := x) (y := y) v3 (show w ≤ 7 by omega) v4 (show hh ≤ 7 by omega)
    dsimp only
    omega
  · rw [if_neg h]; dsimp only; omega
theorem b_is {x y w hh : Int} (hW : WS s) : qin (spIs x y w hh s).1 := by
  obtain ⟨a, kp, ik, sg, tx, so, sz, rw⟩ := s
  have b3 := hW.1.1.2.2.2.1
  unfold spIs IsP
  dsimp only
  have := lst_b (P := fun p => Clr a x y w hh ∧ Fit a p w hh) (a 3).toNat 0 (by omega)
  split <;> dsimp only <;> omega
theorem b_told {q : Int} (hW : WS s) : qin (spTold q s).1 := by
  obtain ⟨a, kp, ik, sg, tx, so, sz, rw⟩ := s
  have xw := hW.1.1
  have b0 := xw.1
  have b1 := xw.2.1
  have b2 := xw.2.2.1
  have b3 := xw.2.2.2.1
  have b4 := Sbad_b hW.1
  have b5 := Bs_b xw (x := 0) (y := 0) b0.1 b0.2 b1.1 b1.2
  have b6 := TR_len xw
  have b7 := Pa_b xw
  have b8 := Cu_b xw
  have b9 := Sq_b xw
  have b10 := DX_b (a := a)
  have bm := mul_b b0.1 b0.2 b1.1 b1.2
  unfold spTold ToldV
  dsimp only
  repeat' split
  all_goals omega
theorem b_node {i q : Int} (hW : WS s) : qin (spNode i q s).1 := by
  obtain ⟨a, kp, ik, sg, tx, so, sz, rw⟩ := s
  unfold spNode
  dsimp only
  by_cases h : 0 ≤ i ∧ i < (TR a).length ∧ 0 ≤ q ∧ q < 8
  · rw [if_pos h]
    have := nd_b hW.1.1 h.1 h.2.1 (q := q.toNat) (by omega)
    dsimp only
    omega
  · rw [if_neg h]; dsimp only; omega
theorem b_picture {x y : Int} (hW : WS s) : qin (spPicture x y s).1 := by
  obtain ⟨a, kp, ik, sg, tx, so, sz, rw⟩ := s
  have h6 := TR_len hW.1.1
  unfold spPicture
  dsimp only
  split
  · dsimp only
    unfold PO
    rcases lst_o (P := POP (TR a) x y) (TR a).length 0 (by omega) with z | ⟨z1, z2, -⟩
    · rw [if_pos z.1]
      omega
    · rw [if_neg (by omega)]
      have := nd_b hW.1.1 z1 (by omega) (q := 5) (by omega)
      omega
  · dsimp only; omega
theorem b_staged {n way : Int} (hW : WS s) : qin (spStaged n way s).1 := by
  obtain ⟨a, kp, ik, sg, tx, so, sz, rw⟩ := s
  have xw := hW.1.1
  have b0 := xw.1
  have b1 := xw.2.1
  have := Bdd_b (StF_b (K := a 2) (way := way) xw.2.2.1.1 n.toNat (Pln a) (Pln_bb xw)) (x := 0) (y := 0) b0.1 b0.2 b1.1 b1.2
  unfold spStaged
  dsimp only
  split <;> dsimp only <;> omega
theorem b_sizes {q : Int} (hW : WS s) : qin (spSizes q s).1 := by
  obtain ⟨a, kp, ik, sg, tx, so, sz, rw⟩ := s
  have b0 := hW.1.1.1
  have b1 := hW.1.1.2.1
  unfold spSizes
  dsimp only
  by_cases h : q = 0 ∨ q = 1
  · rw [if_pos h]
    have : (a q.toNat).toNat < 8 := by
      rcases h with rfl | rfl
      · show (a 0).toNat < 8
        omega
      · show (a 1).toNat < 8
        omega
    have := SzV_b a q (a q.toNat).toNat this
    dsimp only
    omega
  · rw [if_neg h]; dsimp only; omega
theorem b_see {p n : Int} (hW : WS s) : qin (spSee p n s).1 := by
  obtain ⟨a, kp, ik, sg, tx, so, sz, rw⟩ := s
  have := hW.1.2.2.1.1
  unfold spSee
  dsimp only
  repeat' split
  all_goals (dsimp only; omega)
theorem b_book {p n : Int} (hW : WS s) : qin (spBook p n s).1 := by
  obtain ⟨a, kp, ik, sg, tx, so, sz, rw⟩ := s
  have := hW.1.2.2.2.2.1
  unfold spBook
  dsimp only
  repeat' split
  all_goals (dsimp only; omega)
theorem b_event {q n : Int} (hW : WS s) : qin (spEvent q n s).1 := by
  obtain ⟨a, kp, ik, sg, tx, so, sz, rw⟩ := s
  have := hW.1.2.2.2.1.1
  unfold spEvent
  dsimp only
  repeat' split
  all_goals (dsimp only; omega)
theorem b_fits {p q : Int} (hW : WS s) : qin (spFits p q s).1 := by
  obtain ⟨a, kp, ik, sg, tx, so, sz, rw⟩ := s
  have h1 := cnf_b (P := FitP a p) 20 1
  have h2 := lst_b (P := FitP a p) 20 1 (by omega)
  unfold spFits
  dsimp only
  split
  · dsimp only
    split <;> omega
  · dsimp only; omega
theorem b_after {q : Int} (hW : WS s) : qin (spAfter q s).1 := by
  obtain ⟨a, kp, ik, sg, tx, so, sz, rw⟩ := s
  have h84 := hW.1.2.2.2.1.1
  have xw := (evA_ok hW.1 (a 84).toNat (by omega)).1
  have b0 := xw.1
  have b1 := xw.2.1
  have b5 := Bs_b xw (x := 0) (y := 0) b0.1 b0.2 b1.1 b1.2
  have b8 := Cu_b xw
  have b9 := Sq_b xw
  have bm := mul_b b0.1 b0.2 b1.1 b1.2
  unfold spAfter aftV
  dsimp only
  split
  · dsimp only
    split
    · omega
    · split <;> omega
  · dsimp only; omega
theorem b_looked (hW : WS s) : qin (spLooked s).1 := by
  obtain ⟨a, kp, ik, sg, tx, so, sz, rw⟩ := s
  have h := hW.1.2.2.2.2.1
  have := lst_b (P := fun i => Us (TR a) (a (102 + i).toNat) ≠ a (110 + i).toNat) (a 101).toNat 0 (by omega)
  unfold spLooked FO
  dsimp only
  omega
theorem b_judge {t i : Int} (hW : WS s) : qin (spJudge t i s).1 := by
  obtain ⟨a, kp, ik, sg, tx, so, sz, rw⟩ := s
  have h6 := TR_len hW.1.1
  have := lst_b (P := JudP (TR a) (sz t.toNat) (rw t.toNat) i) (TR a).length 0 (by omega)
  unfold spJudge JudV
  dsimp only
  repeat' split
  all_goals (try dsimp only)
  all_goals (repeat' split)
  all_goals omega
theorem b_image (hW : WS s) : qin (spImage s).1 := by
  obtain ⟨a, kp, ik, sg, tx, so, sz, rw⟩ := s
  have b3 := hW.1.1.2.2.2.1
  unfold spImage
  dsimp only
  omega
theorem b_undo (hW : WS s) : qin (spUndo s).1 := by
  obtain ⟨a, kp, ik, sg, tx, so, sz, rw⟩ := s
  unfold spUndo
  dsimp only
  by_cases h : ik = 0
  · rw [if_pos h]; dsimp only; omega
  · rw [if_neg h]
    have := (hW.2.2.1 (hW.2.1.resolve_left h)).1.2.2.2.1
    dsimp only
    omega
theorem b_count {q : Int} (hW : WS s) : qin (spCount q s).1 := by
  obtain ⟨a, kp, ik, sg, tx, so, sz, rw⟩ := s
  have h1 := hW.1.2.2.1.1
  have h2 := hW.1.2.2.2.1.1
  have h3 := hW.1.2.2.2.2.1
  have h4 := hW.2.2.2.1
  unfold spCount
  dsimp only
  repeat' split
  all_goals omega
theorem b_tape {t q n : Int} : qin (spTape t q n s).1 := by
  unfold spTape
  repeat' split
  all_goals (dsimp only; omega)
theorem b_item {t i : Int} {v : Int64} : qin (spItem t i v s).1 := by
  unfold spItem
  repeat' split
  all_goals (dsimp only; omega)
theorem b_shift {t i u j n : Int} (bn : qin n) : qin (spShift t i u j n s).1 := by
  unfold spShift
  repeat' split
  all_goals (dsimp only; omega)
end
