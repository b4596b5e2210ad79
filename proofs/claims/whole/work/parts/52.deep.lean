/-! ===== how deep the cuts go: along the nodes' origins ===== -/
theorem nd_c (v : List Int) (l : List (List Int)) (t q : Nat) : nd (v :: l) (t + 1) q = nd l t q := by simp [nd]
theorem nd_0 (v : List Int) (l : List (List Int)) (q : Nat) : nd (v :: l) 0 q = v.getD q 0 := by simp [nd]
theorem nd_a1 {l1 : List (List Int)} (l2 : List (List Int)) {t : Nat} (q : Nat) (h : t < l1.length) : nd (l1 ++ l2) t q = nd l1 t q := by
  simp only [nd, List.getD_eq_getElem?_getD, List.getElem?_append_left h]
theorem nd_a2 {l1 : List (List Int)} (l2 : List (List Int)) (t q : Nat) : nd (l1 ++ l2) (l1.length + t) q = nd l2 t q := by
  simp only [nd, List.getD_eq_getElem?_getD, List.getElem?_append_right (show l1.length ≤ l1.length + t by omega)]
  rw [show l1.length + t - l1.length = t by omega]
def bt (l : List (List Int)) (t : Nat) : Int := if 2 ≤ nd l t 0 then 1 else 0
theorem bt_b (l : List (List Int)) (t : Nat) : 0 ≤ bt l t ∧ bt l t ≤ 1 := by
  unfold bt
  split <;> omega
/-- C: how many cuts are above each node, itself among them; m: the most of the cuts' own -/
def DpOK (l : List (List Int)) (i fr dp m : Int) (C : Int → Int) : Prop := (∀ t : Nat, t < l.length → (t = 0 → nd l t 6 = fr ∧ C (i + (t : Int)) = dp + bt l t) ∧ (0 < t → i ≤ nd l t 6 ∧ nd l t 6 < i + t ∧ C (i + (t : Int)) = C (nd l t 6) + bt l t) ∧ 0 ≤ C (i + (t : Int)) ∧ C (i + (t : Int)) ≤ max dp m) ∧ (m = 0 ∨ ∃ t : Nat, t < l.length ∧ C (i + (t : Int)) = m)
theorem DpOK_1 {v : List Int} {i fr dp : Int} (h0 : v.getD 6 0 = fr) (h1 : ¬ 2 ≤ v.getD 0 0) (hd : 0 ≤ dp) : ∃ C, DpOK [v] i fr dp 0 C := by
  refine ⟨fun _ => dp, fun t ht => ?_, Or.inl rfl⟩
  have : t = 0 := by simp at ht; exact ht
  subst this
  refine ⟨fun _ => ⟨by rw [nd_0]; exact h0, ?_⟩, fun h => by omega, hd, by dsimp only; omega⟩
  unfold bt
  rw [nd_0, if_neg h1]
  show dp = dp + 0
  omega
theorem DpOK_2 {v : List Int} {l1 l2 : List (List Int)} {i fr dp m1 m2 : Int} {C1 : Int → Int} (h0 : v.getD 6 0 = fr) (h1 : 2 ≤ v.getD 0 0) (hd : 0 ≤ dp) (hm1 : 0 ≤ m1) (hm2 : 0 ≤ m2) (g1 : DpOK l1 (i + 1) i (dp + 1) m1 C1) (g2 : ∃ C2, DpOK l2 (i + 1 + l1.length) i (dp + 1) m2 C2) : ∃ C, DpOK (v :: (l1 ++ l2)) i fr dp (max (dp + 1) (max m1 m2)) C := by
  obtain ⟨C2, g2, g2m⟩ := g2
  obtain ⟨g1, g1m⟩ := g1
  refine ⟨fun j => if j ≤ i then dp + 1 else if j < i + 1 + l1.length then C1 j else C2 j, fun t ht => ?_, ?_⟩
  · rcases t with _ | t
    · refine ⟨fun _ => ⟨by rw [nd_0]; exact h0, ?_⟩, fun h => by omega, ?_⟩
      · unfold bt
        rw [nd_0, if_pos h1]
        exact if_pos (by omega)
      · dsimp only
        rw [if_pos (by omega)]
        omega
    · rw [List.length_cons, List.length_append] at ht
      have eb : bt (v :: (l1 ++ l2)) (t + 1) = bt (l1 ++ l2) t := by unfold bt; rw [nd_c]
      rw [nd_c, eb]
      dsimp only
      by_cases h : t < l1.length
      · obtain ⟨q1, q2, q3, q4⟩ := g1 t h
        have eb2 : bt (l1 ++ l2) t = bt l1 t := by unfold bt; rw [nd_a1 l2 0 h]
        rw [nd_a1 l2 6 h, eb2, if_neg (by omega), if_pos (show i + ((t + 1 : Nat) : Int) < i + 1 + l1.length by omega), show i + ((t + 1 : Nat) : Int) = i + 1 + (t : Int) by omega]
        refine ⟨fun e => by omega, fun _ => ?_, q3, by omega⟩
        by_cases ht0 : t = 0
        · obtain ⟨r1, r2⟩ := q1 ht0
          rw [r1, if_pos (Int.le_refl _), r2]
          omega
        · obtain ⟨r1, r2, r3⟩ := q2 (by omega)
          rw [if_neg (by omega), if_pos (by omega)]
          omega
      · obtain ⟨t2, rfl⟩ : ∃ t2, t = l1.length + t2 := ⟨t - l1.length, by omega⟩
        obtain ⟨q1, q2, q3, q4⟩ := g2 t2 (by omega)
        have eb2 : bt (l1 ++ l2) (l1.length + t2) = bt l2 t2 := by unfold bt; rw [nd_a2 l2 t2 0]
        rw [nd_a2 l2 t2 6, eb2, if_neg (by omega), if_neg (show ¬ i + ((l1.length + t2 + 1 : Nat) : Int) < i + 1 + l1.length by omega), show i + ((l1.length + t2 + 1 : Nat) : Int) = i + 1 + (l1.length : Int) + (t2 : Int) by omega]
        refine ⟨fun e => by omega, fun _ => ?_, q3, by omega⟩
        by_cases ht0 : t2 = 0
        · obtain ⟨r1, r2⟩ := q1 ht0
          rw [r1, if_pos (Int.le_refl _), r2]
          omega
        · obtain ⟨r1, r2, r3⟩ := q2 (by omega)
          rw [if_neg (by omega), if_neg (by omega)]
          omega
  · refine Or.inr ?_
    by_cases c1 : m1 ≤ dp + 1 ∧ m2 ≤ dp + 1
    · refine ⟨0, by simp, ?_⟩
      dsimp only
      rw [if_pos (by omega)]
      omega
    · by_cases c2 : m2 ≤ m1
      · rcases g1m with e | ⟨t, t1, t2⟩
        · omega
        · refine ⟨t + 1, by simp; omega, ?_⟩
          dsimp only
          rw [if_neg (by omega), if_pos (by omega), show i + ((t + 1 : Nat) : Int) = i + 1 + (t : Int) by omega]
          omega
      · rcases g2m with e | ⟨t, t1, t2⟩
        · omega
        · refine ⟨l1.length + t + 1, by simp; omega, ?_⟩
          dsimp only
          rw [if_neg (by omega), if_neg (by omega), show i + ((l1.length + t + 1 : Nat) : Int) = i + 1 + (l1.length : Int) + (t : Int) by omega]
          omega
theorem DpOK_n {i fr dp : Int} : ∃ C, DpOK [] i fr dp 0 C := ⟨fun _ => 0, fun t ht => by simp at ht, Or.inl rfl⟩
theorem tr_dp {a : Nat → Int} (hW : WF a) : ∀ (n : Nat) (i fr dp x y w h : Int), 1 ≤ w → 1 ≤ h → w + h ≤ n → 0 ≤ dp → ∃ C, DpOK (tr a n i fr x y w h) i fr dp (dmx a n dp x y w h) C := by
  have bK := hW.2.2.1
  intro n
  induction n with
  | zero => intro i fr dp x y w h h1 h2 h3; omega
  | succ n ih =>
    intro i fr dp x y w h hw hh hn hdp
    rcases tr_cases hW (n := n) (i := i) (fr := fr) (x := x) (y := y) hw hh with ⟨e1, e⟩ | ⟨e1, p, p1, p2, p3, p5, e⟩ | ⟨e1, e2, k, k1, k2, k3, e⟩ | ⟨e1, e2, e3, k, k1, k2, k3, e⟩
    · rw [e, dmx, if_pos e1]
      exact DpOK_1 rfl (show ¬ (2 : Int) ≤ 0 by decide) hdp
    · rw [e, dmx, if_neg e1, p5, if_pos (by omega)]
      exact DpOK_1 rfl (show ¬ (2 : Int) ≤ 1 by decide) hdp
    · have em : dmx a (n + 1) dp x y w h = max (dp + 1) (max (dmx a n (dp + 1) x y k h) (if 0 < w - k - a 2 then dmx a n (dp + 1) (x + k + a 2) y (w - k - a 2) h else 0)) := by rw [dmx, if_neg e1, e2, if_neg (by decide), k3, if_pos (by omega)]
      rw [e, em]
      obtain ⟨C1, g1⟩ := ih (i + 1) i (dp + 1) x y k h k1 hh (by omega) (by omega)
      refine DpOK_2 (v := [2, x, y, w, h, k, fr, Bs a x y w h]) rfl (show (2 : Int) ≤ 2 by decide) hdp (dmx_b _ _ _ _ _ _ (by omega)).1 ?_ g1 ?_
      · split
        · exact (dmx_b _ _ _ _ _ _ (by omega)).1
        · omega
      · by_cases hc : 0 < w - k - a 2
        · rw [if_pos hc, if_pos hc]
          exact ih _ i (dp + 1) _ y _ h (by omega) hh (by omega) (by omega)
        · rw [if_neg hc, if_neg hc]
          exact DpOK_n
    · have em : dmx a (n + 1) dp x y w h = max (dp + 1) (max (dmx a n (dp + 1) x y w k) (if 0 < h - k - a 2 then dmx a n (dp + 1) x (y + k + a 2) w (h - k - a 2) else 0)) := by rw [dmx, if_neg e1, e2, if_neg (by decide), e3, if_neg (by decide), k3]
      rw [e, em]
      obtain ⟨C1, g1⟩ := ih (i + 1) i (dp + 1) x y w k hw k1 (by omega) (by omega)
      refine DpOK_2 (v := [3, x, y, w, h, k, fr, Bs a x y w h]) rfl (show (2 : Int) ≤ 3 by decide) hdp (dmx_b _ _ _ _ _ _ (by omega)).1 ?_ g1 ?_
      · split
        · exact (dmx_b _ _ _ _ _ _ (by omega)).1
        · omega
      · by_cases hc : 0 < h - k - a 2
        · rw [if_pos hc, if_pos hc]
          exact ih _ i (dp + 1) x _ w _ hw (by omega) (by omega) (by omega)
        · rw [if_neg hc, if_neg hc]
          exact DpOK_n
theorem TR_dp {a : Nat → Int} (hW : WF a) : ∃ C, DpOK (TR a) 0 (-5) 0 (DX a) C := by
  have b0 := hW.1
  have b1 := hW.2.1
  exact tr_dp hW 14 0 (-5) 0 0 0 (a 0) (a 1) (by omega) (by omega) (by omega) (by omega)
section
variable {d : Nat} {h : qH} {a : Nat → Int} {ik sg cl : Int} {R : qR}
theorem deep_s {f : Nat → Int} (hW : WF a) (hm : h 46 = mob ik sg cl (TR a).length) (hn : h 53 = .inr (0, 1024, .inl f)) (hd : Nds f 0 (TR a)) {o1 o2 o3 o4 : Option qV} (hR : R (some (.inl (DX a))) h) : Wp d 139 0 [some (.inr (.inr (some 46))), o1, o2, o3, o4] [] h R := by
  have hlen := TR_len hW
  have hl := TR_ok hW
  have hDX := DX_b (a := a)
  obtain ⟨C, g1, g2⟩ := TR_dp hW
  -- the way up from a node
  have up : ∀ (N : Nat) (k c : Int) (m j : Int), k + 6 ≤ N → (k = -5 ∨ 0 ≤ k ∧ k < (TR a).length) → 0 ≤ c → (Wp d 139 4 [some (.inr (.inr (some 46))), some (.inl m), some (.inl j), some (.inl (c + if k = -5 then 0 else C k)), some (.inl (-5))] [] h R) → Wp d 139 2 [some (.inr (.inr (some 46))), some (.inl m), some (.inl j), some (.inl c), some (.inl k)] [] h R := by
    intro N
    induction N with
    | zero => intro k c m j h1 h2; omega
    | succ N ih =>
      intro k c m j hN hk hc hgo
      rw [u_X8_deep_2, k_X8_deep_2]; simp only [u_X8_deep_3, k_X8_deep_3, qb_iconst, qb_bipush, qb_sipush, qb_lconst0, qb_lconst1, qb_ldc, qb_ldc2, qb_iload0, qb_lload0, qb_aload0, qb_istore0, qb_astore0, qb_lstore0, qb_iinc0, qb_iload1, qb_lload1, qb_aload1, qb_istore1, qb_istore1k, qb_astore1, qb_astore1k, qb_lstore1, qb_lstore1k, qb_iinc1, qb_iinc1k, qb_iload2, qb_lload2, qb_aload2, qb_istore2, qb_istore2k, qb_astore2, qb_astore2k, qb_lstore2, qb_lstore2k, qb_iinc2, qb_iinc2k, qb_iload3, qb_lload3, qb_aload3, qb_istore3, qb_istore3k, qb_astore3, qb_astore3k, qb_lstore3, qb_lstore3k, qb_iinc3, qb_iinc3k, qb_iload4, qb_lload4, qb_aload4, qb_istore4, qb_istore4k, qb_astore4, qb_astore4k, qb_lstore4, qb_lstore4k, qb_iinc4, qb_iinc4k, qb_iload5, qb_lload5, qb_aload5, qb_istore5, qb_istore5k, qb_astore5, qb_astore5k, qb_lstore5, qb_lstore5k, qb_iinc5, qb_iinc5k, qb_iload6, qb_lload6, qb_aload6, qb_istore6, qb_istore6k, qb_astore6, qb_astore6k, qb_lstore6, qb_lstore6k, qb_iinc6, qb_iinc6k, qb_iload7, qb_lload7, qb_aload7, qb_istore7, qb_istore7k, qb_astore7, qb_astore7k, qb_lstore7, qb_lstore7k, qb_iinc7, qb_iinc7k, qb_iload8, qb_lload8, qb_aload8, qb_istore8, qb_istore8k, qb_astore8, qb_astore8k, qb_lstore8, qb_lstore8k, qb_iinc8, qb_iinc8k, qb_iload9, qb_lload9, qb_aload9, qb_istore9, qb_istore9k, qb_astore9, qb_astore9k, qb_lstore9, qb_lstore9k, qb_iinc9, qb_iinc9k, qb_iload10, qb_lload10, qb_aload10, qb_istore10, qb_istore10k, qb_astore10, qb_astore10k, qb_lstore10, qb_lstore10k, qb_iinc10, qb_iinc10k, qb_iload11, qb_lload11, qb_aload11, qb_istore11, qb_istore11k, qb_astore11, qb_astore11k, qb_lstore11, qb_lstore11k, qb_iinc11, qb_iinc11k, qb_iload12, qb_lload12, qb_aload12, qb_istore12, qb_istore12k, qb_astore12, qb_astore12k, qb_lstore12, qb_lstore12k, qb_iinc12, qb_iinc12k, qb_iadd, qb_isub, qb_imul, qb_iand, qb_ior, qb_ishl, qb_ishr, qb_iushr, qb_idiv, qb_irem, qb_i2l, qb_i2b, qb_i2s, qb_i2c, qb_l2i, qb_ladd, qb_lsub, qb_lmul, qb_land, qb_lor, qb_ldiv, qb_lrem, qb_lshl, qb_lushr, qb_lcmp, qb_dupi, qb_popi, qb_dupr, qb_popr, qb_dup2, qb_getfield, qb_putfield, qb_getstatic, qb_getstaticJ, qb_iaload, qb_baload, qb_laload, qb_aaload, qb_iastore, qb_bastore, qb_lastore, qb_arraylength, qb_icmp_eq, qb_if_eq, qb_icmp_ne, qb_if_ne, qb_icmp_lt, qb_if_lt, qb_icmp_ge, qb_if_ge, qb_icmp_gt, qb_if_gt, qb_icmp_le, qb_if_le, qb_goto, qb_nop, qb_table, qb_lookup, qb_iret, qb_zret, qb_bret, qb_lret, qb_aret, qb_vret, qb_invv0, qb_invs0, qb_invn0, qb_invv1, qb_invs1, qb_invn1, qb_invv2, qb_invs2, qb_invn2, qb_invv3, qb_invs3, qb_invn3, qb_invv4, qb_invs4, qb_invn4, qb_invv5, qb_invs5, qb_invn5, qb_invv6, qb_invs6, qb_invn6, qb_invv7, qb_invs7, qb_invn7, qb_max, qb_min, qb_copy, qob_s, qai_s, qalg_s, qar_3, qar_4, qaln_s, qso_s, qcpc_i, qcpc_l, qfit_0, qfit_1, qfit_2, qsw_n, qsw_c, qlk_n, qlk_c, qcs_n, qcs_i, qcs_l, qcs_r, qts, qtn, qS_same, qU_same, List.getElem?_cons_zero, List.getElem?_cons_succ, List.set_cons_zero, List.set_cons_succ, List.length_cons, List.length_nil, true_and, and_true, true_imp_iff, false_imp_iff, not_true_eq_false, not_false_eq_true, eq_self, List.toList_toArray, List.map_cons, List.map_nil, c_X0_reckon, c_X0_grow, c_X0_settle, c_X0_name, c_X0_write, c_X0_fact, c_X0_timesUsed, c_X0_wasted, c_X0_partOn, c_X0_telling, c_X0_firstOtherwise, c_X1_append, c_X1_first, c_X1_second, c_X1_copyFrom, c_X2_copyFrom, c_X2_has, c_X2_fact, c_X2_write, c_X2_hasSquare, c_X2_hasPiece, c_X2_isSound, c_X2_isOfSize, c_X2_leastPart, c_X2_greatestWorth, c_X2_lengths, c_X2_befall, c_X3_copyFrom, c_X4_become, c_X4_hasPlace, c_X4_hasRange, c_X4_asItem, c_X5_append, c_X5_sign, c_X5_isDigit, c_X5_digit, c_X5_worth, c_X5_digitsDue, c_X5_firstFault, c_X5_clauseBehind, c_X6_at, c_X6_put, c_X6_ofPlate, c_X6_layParts, c_X6_layPartsOfSize, c_X6_cutAll, c_X6_cutAllOfSize, c_X6_cutOrNot, c_X6_together, c_X6_leastCut, c_X7_plate, c_X7_kerf, c_X7_part, c_X7_renew, c_X7_turn, c_X7_of, c_X7_defect, c_X7_mend, c_X7_feed, c_X7_read, c_X7_best, c_X7_is, c_X7_told, c_X7_node, c_X7_picture, c_X7_staged, c_X7_sizes, c_X7_more, c_X7_bound, c_X7_see, c_X7_fits, c_X7_odds, c_X7_mean, c_X7_event, c_X7_after, c_X7_book, c_X7_looked, c_X7_judge, c_X7_image, c_X7_undo, c_X7_count, c_X7_tape, c_X7_item, c_X7_peek, c_X7_shift, c_X7_isSide, c_X7_isWorth, c_X7_isOneOfTwo, c_X7_isTape, c_X7_waysOnly, c_X7_squares, c_X7_lowest, c_X7_isSum, c_X7_freshCuts, c_X7_rewrite, c_X7_tryWorth, c_X7_tellUse, c_X7_isEvent, c_X7_doClauses, c_X7_doClause, c_X8_in, c_X8_isPart, c_X8_think, c_X8_forget, c_X8_plate, c_X8_kerf, c_X8_part, c_X8_renew, c_X8_turn, c_X8_of, c_X8_isSquare, c_X8_defects, c_X8_clearDefects, c_X8_defect, c_X8_mend, c_X8_feed, c_X8_isDigit, c_X8_digit, c_X8_isOne, c_X8_faultOf, c_X8_does, c_X8_read, c_X8_at, c_X8_isPiece, c_X8_isClear, c_X8_fitsIn, c_X8_plain, c_X8_cutBy, c_X8_measure, c_X8_bestOfAll, c_X8_best, c_X8_is, c_X8_cuts, c_X8_partWorth, c_X8_grow, c_X8_usedOf, c_X8_parts, c_X8_cutOnes, c_X8_wasted, c_X8_deep, c_X8_told, c_X8_node, c_X8_picture, c_X8_stage, c_X8_staged, c_X8_sizes, c_X8_more, c_X8_common, c_X8_lowest, c_X8_bound, c_X8_comes, c_X8_see, c_X8_isSeen, c_X8_fits, c_X8_odds, c_X8_mean, c_X8_event, c_X8_happens, c_X8_after, c_X8_book, c_X8_looked, c_X8_isTape, c_X8_judge, c_X8_image, c_X8_undo, c_X8_count, c_X8_tape, c_X8_lowestBits, c_X8_item, c_X8_peek, c_X8_shift, c_J13_bitCount_95d88, c_J0_length_8abf5, c_J0_indexOf_0f7a4, c_J0_indexOf_7cf53, c_J0_coder_7d493, c_J0_isLatin1_aae02, c_J1_canEncode_9a6ad, c_J1_indexOf_4cfef, c_J1_indexOfChar_4cfef, c_J7_fill_d0a16, c_J7_fill_53178, Option.some.injEq, Sum.inl.injEq, Sum.inr.injEq, reduceCtorEq, Nat.reduceLeDiff, Nat.reduceAdd, or_true, true_or, false_or, or_false, and_false, false_and, Int.toNat_natCast, Int.reduceLT, Int.reduceLE, Int.reduceEq, Int.reduceNe, Int.reduceAdd, Int.reduceMul, Int.reduceSub, Int.reduceNeg, Nat.reduceLT, Nat.reduceMul, Nat.reduceEqDiff, implies_true, Int.reduceToNat, Decidable.not_not, qS_ne, ne_eq, qS_qS, hm, hn]
      by_cases hk5 : k = -5
      · subst hk5
        rw [if_pos rfl, show c + 0 = c by omega] at hgo
        (repeat' (first | apply And.intro | (refine imp_i ?_; intro _))) <;> try omega
        all_goals exact hgo
      · have hk := hk.resolve_left hk5
        rw [if_neg hk5] at hgo
        have e0 : f (8 * k + 0).toNat = _ := Nds_z hd hk.1 hk.2 0 (by decide)
        have e6 : f (8 * k + 6).toNat = _ := Nds_z hd hk.1 hk.2 6 (by decide)
        obtain ⟨c0, -, -, c6, -⟩ := nd_ok hl hk.1 hk.2
        obtain ⟨q1, q2, q3, q4⟩ := g1 k.toNat (by omega)
        rw [show (0 : Int) + ((k.toNat : Nat) : Int) = k by omega] at q1 q2 q3 q4
        have hfr : (nd (TR a) k.toNat 6 = -5 ∨ 0 ≤ nd (TR a) k.toNat 6 ∧ nd (TR a) k.toNat 6 < k) ∧ C k = (if nd (TR a) k.toNat 6 = -5 then 0 else C (nd (TR a) k.toNat 6)) + bt (TR a) k.toNat := by
          by_cases hk0 : k.toNat = 0
          · obtain ⟨r1, r2⟩ := q1 hk0
            exact ⟨Or.inl r1, by rw [if_pos r1, r2]⟩
          · obtain ⟨r1, r2, r3⟩ := q2 (by omega)
            exact ⟨Or.inr ⟨by omega, by omega⟩, by rw [if_neg (by omega), r3]⟩
        rw [e0, e6]
        unfold bt at hfr
        generalize hu : (if nd (TR a) k.toNat 6 = -5 then 0 else C (nd (TR a) k.toNat 6)) = u at hfr
        (repeat' (first | apply And.intro | (refine imp_i ?_; intro _))) <;> try omega
        · next hlt =>
          rw [if_neg (by omega)] at hfr
          refine ih _ c m j (by omega) (by omega) hc ?_
          rw [hu, show u = C k by omega]
          exact hgo
        · next hge =>
          rw [if_pos (by omega)] at hfr
          refine ih _ (c + 1) m j (by omega) (by omega) (by omega) ?_
          rw [hu, show c + 1 + u = c + C k by omega]
          exact hgo
  have key : ∀ j : Int, j ≤ (TR a).length → 0 ≤ j → ∀ m, 0 ≤ m → m ≤ 14 → (∀ t : Int, 0 ≤ t → t < j → C t ≤ m) → (m = 0 ∨ ∃ t : Int, 0 ≤ t ∧ t < j ∧ C t = m) → ∀ o3 o4, Wp d 139 1 [some (.inr (.inr (some 46))), some (.inl m), some (.inl j), o3, o4] [] h R := by
    refine z_up (fun j hj ih hj0 m hm0 hm14 hle hor o3 o4 => ?_)
    rw [u_X8_deep_1, k_X8_deep_1]; simp only [u_X8_deep_5, k_X8_deep_5, qb_iconst, qb_bipush, qb_sipush, qb_lconst0, qb_lconst1, qb_ldc, qb_ldc2, qb_iload0, qb_lload0, qb_aload0, qb_istore0, qb_astore0, qb_lstore0, qb_iinc0, qb_iload1, qb_lload1, qb_aload1, qb_istore1, qb_istore1k, qb_astore1, qb_astore1k, qb_lstore1, qb_lstore1k, qb_iinc1, qb_iinc1k, qb_iload2, qb_lload2, qb_aload2, qb_istore2, qb_istore2k, qb_astore2, qb_astore2k, qb_lstore2, qb_lstore2k, qb_iinc2, qb_iinc2k, qb_iload3, qb_lload3, qb_aload3, qb_istore3, qb_istore3k, qb_astore3, qb_astore3k, qb_lstore3, qb_lstore3k, qb_iinc3, qb_iinc3k, qb_iload4, qb_lload4, qb_aload4, qb_istore4, qb_istore4k, qb_astore4, qb_astore4k, qb_lstore4, qb_lstore4k, qb_iinc4, qb_iinc4k, qb_iload5, qb_lload5, qb_aload5, qb_istore5, qb_istore5k, qb_astore5, qb_astore5k, qb_lstore5, qb_lstore5k, qb_iinc5, qb_iinc5k, qb_iload6, qb_lload6, qb_aload6, qb_istore6, qb_istore6k, qb_astore6, qb_astore6k, qb_lstore6, qb_lstore6k, qb_iinc6, qb_iinc6k, qb_iload7, qb_lload7, qb_aload7, qb_istore7, qb_istore7k, qb_astore7, qb_astore7k, qb_lstore7, qb_lstore7k, qb_iinc7, qb_iinc7k, qb_iload8, qb_lload8, qb_aload8, qb_istore8, qb_istore8k, qb_astore8, qb_astore8k, qb_lstore8, qb_lstore8k, qb_iinc8, qb_iinc8k, qb_iload9, qb_lload9, qb_aload9, qb_istore9, qb_istore9k, qb_astore9, qb_astore9k, qb_lstore9, qb_lstore9k, qb_iinc9, qb_iinc9k, qb_iload10, qb_lload10, qb_aload10, qb_istore10, qb_istore10k, qb_astore10, qb_astore10k, qb_lstore10, qb_lstore10k, qb_iinc10, qb_iinc10k, qb_iload11, qb_lload11, qb_aload11, qb_istore11, qb_istore11k, qb_astore11, qb_astore11k, qb_lstore11, qb_lstore11k, qb_iinc11, qb_iinc11k, qb_iload12, qb_lload12, qb_aload12, qb_istore12, qb_istore12k, qb_astore12, qb_astore12k, qb_lstore12, qb_lstore12k, qb_iinc12, qb_iinc12k, qb_iadd, qb_isub, qb_imul, qb_iand, qb_ior, qb_ishl, qb_ishr, qb_iushr, qb_idiv, qb_irem, qb_i2l, qb_i2b, qb_i2s, qb_i2c, qb_l2i, qb_ladd, qb_lsub, qb_lmul, qb_land, qb_lor, qb_ldiv, qb_lrem, qb_lshl, qb_lushr, qb_lcmp, qb_dupi, qb_popi, qb_dupr, qb_popr, qb_dup2, qb_getfield, qb_putfield, qb_getstatic, qb_getstaticJ, qb_iaload, qb_baload, qb_laload, qb_aaload, qb_iastore, qb_bastore, qb_lastore, qb_arraylength, qb_icmp_eq, qb_if_eq, qb_icmp_ne, qb_if_ne, qb_icmp_lt, qb_if_lt, qb_icmp_ge, qb_if_ge, qb_icmp_gt, qb_if_gt, qb_icmp_le, qb_if_le, qb_goto, qb_nop, qb_table, qb_lookup, qb_iret, qb_zret, qb_bret, qb_lret, qb_aret, qb_vret, qb_invv0, qb_invs0, qb_invn0, qb_invv1, qb_invs1, qb_invn1, qb_invv2, qb_invs2, qb_invn2, qb_invv3, qb_invs3, qb_invn3, qb_invv4, qb_invs4, qb_invn4, qb_invv5, qb_invs5, qb_invn5, qb_invv6, qb_invs6, qb_invn6, qb_invv7, qb_invs7, qb_invn7, qb_max, qb_min, qb_copy, qob_s, qai_s, qalg_s, qar_3, qar_4, qaln_s, qso_s, qcpc_i, qcpc_l, qfit_0, qfit_1, qfit_2, qsw_n, qsw_c, qlk_n, qlk_c, qcs_n, qcs_i, qcs_l, qcs_r, qts, qtn, qS_same, qU_same, List.getElem?_cons_zero, List.getElem?_cons_succ, List.set_cons_zero, List.set_cons_succ, List.length_cons, List.length_nil, true_and, and_true, true_imp_iff, false_imp_iff, not_true_eq_false, not_false_eq_true, eq_self, List.toList_toArray, List.map_cons, List.map_nil, c_X0_reckon, c_X0_grow, c_X0_settle, c_X0_name, c_X0_write, c_X0_fact, c_X0_timesUsed, c_X0_wasted, c_X0_partOn, c_X0_telling, c_X0_firstOtherwise, c_X1_append, c_X1_first, c_X1_second, c_X1_copyFrom, c_X2_copyFrom, c_X2_has, c_X2_fact, c_X2_write, c_X2_hasSquare, c_X2_hasPiece, c_X2_isSound, c_X2_isOfSize, c_X2_leastPart, c_X2_greatestWorth, c_X2_lengths, c_X2_befall, c_X3_copyFrom, c_X4_become, c_X4_hasPlace, c_X4_hasRange, c_X4_asItem, c_X5_append, c_X5_sign, c_X5_isDigit, c_X5_digit, c_X5_worth, c_X5_digitsDue, c_X5_firstFault, c_X5_clauseBehind, c_X6_at, c_X6_put, c_X6_ofPlate, c_X6_layParts, c_X6_layPartsOfSize, c_X6_cutAll, c_X6_cutAllOfSize, c_X6_cutOrNot, c_X6_together, c_X6_leastCut, c_X7_plate, c_X7_kerf, c_X7_part, c_X7_renew, c_X7_turn, c_X7_of, c_X7_defect, c_X7_mend, c_X7_feed, c_X7_read, c_X7_best, c_X7_is, c_X7_told, c_X7_node, c_X7_picture, c_X7_staged, c_X7_sizes, c_X7_more, c_X7_bound, c_X7_see, c_X7_fits, c_X7_odds, c_X7_mean, c_X7_event, c_X7_after, c_X7_book, c_X7_looked, c_X7_judge, c_X7_image, c_X7_undo, c_X7_count, c_X7_tape, c_X7_item, c_X7_peek, c_X7_shift, c_X7_isSide, c_X7_isWorth, c_X7_isOneOfTwo, c_X7_isTape, c_X7_waysOnly, c_X7_squares, c_X7_lowest, c_X7_isSum, c_X7_freshCuts, c_X7_rewrite, c_X7_tryWorth, c_X7_tellUse, c_X7_isEvent, c_X7_doClauses, c_X7_doClause, c_X8_in, c_X8_isPart, c_X8_think, c_X8_forget, c_X8_plate, c_X8_kerf, c_X8_part, c_X8_renew, c_X8_turn, c_X8_of, c_X8_isSquare, c_X8_defects, c_X8_clearDefects, c_X8_defect, c_X8_mend, c_X8_feed, c_X8_isDigit, c_X8_digit, c_X8_isOne, c_X8_faultOf, c_X8_does, c_X8_read, c_X8_at, c_X8_isPiece, c_X8_isClear, c_X8_fitsIn, c_X8_plain, c_X8_cutBy, c_X8_measure, c_X8_bestOfAll, c_X8_best, c_X8_is, c_X8_cuts, c_X8_partWorth, c_X8_grow, c_X8_usedOf, c_X8_parts, c_X8_cutOnes, c_X8_wasted, c_X8_deep, c_X8_told, c_X8_node, c_X8_picture, c_X8_stage, c_X8_staged, c_X8_sizes, c_X8_more, c_X8_common, c_X8_lowest, c_X8_bound, c_X8_comes, c_X8_see, c_X8_isSeen, c_X8_fits, c_X8_odds, c_X8_mean, c_X8_event, c_X8_happens, c_X8_after, c_X8_book, c_X8_looked, c_X8_isTape, c_X8_judge, c_X8_image, c_X8_undo, c_X8_count, c_X8_tape, c_X8_lowestBits, c_X8_item, c_X8_peek, c_X8_shift, c_J13_bitCount_95d88, c_J0_length_8abf5, c_J0_indexOf_0f7a4, c_J0_indexOf_7cf53, c_J0_coder_7d493, c_J0_isLatin1_aae02, c_J1_canEncode_9a6ad, c_J1_indexOf_4cfef, c_J1_indexOfChar_4cfef, c_J7_fill_d0a16, c_J7_fill_53178, Option.some.injEq, Sum.inl.injEq, Sum.inr.injEq, reduceCtorEq, Nat.reduceLeDiff, Nat.reduceAdd, or_true, true_or, false_or, or_false, and_false, false_and, Int.toNat_natCast, Int.reduceLT, Int.reduceLE, Int.reduceEq, Int.reduceNe, Int.reduceAdd, Int.reduceMul, Int.reduceSub, Int.reduceNeg, Nat.reduceLT, Nat.reduceMul, Nat.reduceEqDiff, implies_true, Int.reduceToNat, Decidable.not_not, qS_ne, ne_eq, qS_qS, hm]
    by_cases hlt : j < (TR a).length
    · obtain ⟨-, -, q3, q4⟩ := g1 j.toNat (by omega)
      rw [show (0 : Int) + ((j.toNat : Nat) : Int) = j by omega] at q3 q4
      (repeat' (first | apply And.intro | (refine imp_i ?_; intro _))) <;> try omega
      refine up (j.toNat + 6) j 0 m j (by omega) (Or.inr ⟨hj0, hlt⟩) (by omega) ?_
      rw [if_neg (by omega), show 0 + C j = C j by omega]
      rw [u_X8_deep_4, k_X8_deep_4]; simp only [qb_iconst, qb_bipush, qb_sipush, qb_lconst0, qb_lconst1, qb_ldc, qb_ldc2, qb_iload0, qb_lload0, qb_aload0, qb_istore0, qb_astore0, qb_lstore0, qb_iinc0, qb_iload1, qb_lload1, qb_aload1, qb_istore1, qb_istore1k, qb_astore1, qb_astore1k, qb_lstore1, qb_lstore1k, qb_iinc1, qb_iinc1k, qb_iload2, qb_lload2, qb_aload2, qb_istore2, qb_istore2k, qb_astore2, qb_astore2k, qb_lstore2, qb_lstore2k, qb_iinc2, qb_iinc2k, qb_iload3, qb_lload3, qb_aload3, qb_istore3, qb_istore3k, qb_astore3, qb_astore3k, qb_lstore3, qb_lstore3k, qb_iinc3, qb_iinc3k, qb_iload4, qb_lload4, qb_aload4, qb_istore4, qb_istore4k, qb_astore4, qb_astore4k, qb_lstore4, qb_lstore4k, qb_iinc4, qb_iinc4k, qb_iload5, qb_lload5, qb_aload5, qb_istore5, qb_istore5k, qb_astore5, qb_astore5k, qb_lstore5, qb_lstore5k, qb_iinc5, qb_iinc5k, qb_iload6, qb_lload6, qb_aload6, qb_istore6, qb_istore6k, qb_astore6, qb_astore6k, qb_lstore6, qb_lstore6k, qb_iinc6, qb_iinc6k, qb_iload7, qb_lload7, qb_aload7, qb_istore7, qb_istore7k, qb_astore7, qb_astore7k, qb_lstore7, qb_lstore7k, qb_iinc7, qb_iinc7k, qb_iload8, qb_lload8, qb_aload8, qb_istore8, qb_istore8k, qb_astore8, qb_astore8k, qb_lstore8, qb_lstore8k, qb_iinc8, qb_iinc8k, qb_iload9, qb_lload9, qb_aload9, qb_istore9, qb_istore9k, qb_astore9, qb_astore9k, qb_lstore9, qb_lstore9k, qb_iinc9, qb_iinc9k, qb_iload10, qb_lload10, qb_aload10, qb_istore10, qb_istore10k, qb_astore10, qb_astore10k, qb_lstore10, qb_lstore10k, qb_iinc10, qb_iinc10k, qb_iload11, qb_lload11, qb_aload11, qb_istore11, qb_istore11k, qb_astore11, qb_astore11k, qb_lstore11, qb_lstore11k, qb_iinc11, qb_iinc11k, qb_iload12, qb_lload12, qb_aload12, qb_istore12, qb_istore12k, qb_astore12, qb_astore12k, qb_lstore12, qb_lstore12k, qb_iinc12, qb_iinc12k, qb_iadd, qb_isub, qb_imul, qb_iand, qb_ior, qb_ishl, qb_ishr, qb_iushr, qb_idiv, qb_irem, qb_i2l, qb_i2b, qb_i2s, qb_i2c, qb_l2i, qb_ladd, qb_lsub, qb_lmul, qb_land, qb_lor, qb_ldiv, qb_lrem, qb_lshl, qb_lushr, qb_lcmp, qb_dupi, qb_popi, qb_dupr, qb_popr, qb_dup2, qb_getfield, qb_putfield, qb_getstatic, qb_getstaticJ, qb_iaload, qb_baload, qb_laload, qb_aaload, qb_iastore, qb_bastore, qb_lastore, qb_arraylength, qb_icmp_eq, qb_if_eq, qb_icmp_ne, qb_if_ne, qb_icmp_lt, qb_if_lt, qb_icmp_ge, qb_if_ge, qb_icmp_gt, qb_if_gt, qb_icmp_le, qb_if_le, qb_goto, qb_nop, qb_table, qb_lookup, qb_iret, qb_zret, qb_bret, qb_lret, qb_aret, qb_vret, qb_invv0, qb_invs0, qb_invn0, qb_invv1, qb_invs1, qb_invn1, qb_invv2, qb_invs2, qb_invn2, qb_invv3, qb_invs3, qb_invn3, qb_invv4, qb_invs4, qb_invn4, qb_invv5, qb_invs5, qb_invn5, qb_invv6, qb_invs6, qb_invn6, qb_invv7, qb_invs7, qb_invn7, qb_max, qb_min, qb_copy, qob_s, qai_s, qalg_s, qar_3, qar_4, qaln_s, qso_s, qcpc_i, qcpc_l, qfit_0, qfit_1, qfit_2, qsw_n, qsw_c, qlk_n, qlk_c, qcs_n, qcs_i, qcs_l, qcs_r, qts, qtn, qS_same, qU_same, List.getElem?_cons_zero, List.getElem?_cons_succ, List.set_cons_zero, List.set_cons_succ, List.length_cons, List.length_nil, true_and, and_true, true_imp_iff, false_imp_iff, not_true_eq_false, not_false_eq_true, eq_self, List.toList_toArray, List.map_cons, List.map_nil, c_X0_reckon, c_X0_grow, c_X0_settle, c_X0_name, c_X0_write, c_X0_fact, c_X0_timesUsed, c_X0_wasted, c_X0_partOn, c_X0_telling, c_X0_firstOtherwise, c_X1_append, c_X1_first, c_X1_second, c_X1_copyFrom, c_X2_copyFrom, c_X2_has, c_X2_fact, c_X2_write, c_X2_hasSquare, c_X2_hasPiece, c_X2_isSound, c_X2_isOfSize, c_X2_leastPart, c_X2_greatestWorth, c_X2_lengths, c_X2_befall, c_X3_copyFrom, c_X4_become, c_X4_hasPlace, c_X4_hasRange, c_X4_asItem, c_X5_append, c_X5_sign, c_X5_isDigit, c_X5_digit, c_X5_worth, c_X5_digitsDue, c_X5_firstFault, c_X5_clauseBehind, c_X6_at, c_X6_put, c_X6_ofPlate, c_X6_layParts, c_X6_layPartsOfSize, c_X6_cutAll, c_X6_cutAllOfSize, c_X6_cutOrNot, c_X6_together, c_X6_leastCut, c_X7_plate, c_X7_kerf, c_X7_part, c_X7_renew, c_X7_turn, c_X7_of, c_X7_defect, c_X7_mend, c_X7_feed, c_X7_read, c_X7_best, c_X7_is, c_X7_told, c_X7_node, c_X7_picture, c_X7_staged, c_X7_sizes, c_X7_more, c_X7_bound, c_X7_see, c_X7_fits, c_X7_odds, c_X7_mean, c_X7_event, c_X7_after, c_X7_book, c_X7_looked, c_X7_judge, c_X7_image, c_X7_undo, c_X7_count, c_X7_tape, c_X7_item, c_X7_peek, c_X7_shift, c_X7_isSide, c_X7_isWorth, c_X7_isOneOfTwo, c_X7_isTape, c_X7_waysOnly, c_X7_squares, c_X7_lowest, c_X7_isSum, c_X7_freshCuts, c_X7_rewrite, c_X7_tryWorth, c_X7_tellUse, c_X7_isEvent, c_X7_doClauses, c_X7_doClause, c_X8_in, c_X8_isPart, c_X8_think, c_X8_forget, c_X8_plate, c_X8_kerf, c_X8_part, c_X8_renew, c_X8_turn, c_X8_of, c_X8_isSquare, c_X8_defects, c_X8_clearDefects, c_X8_defect, c_X8_mend, c_X8_feed, c_X8_isDigit, c_X8_digit, c_X8_isOne, c_X8_faultOf, c_X8_does, c_X8_read, c_X8_at, c_X8_isPiece, c_X8_isClear, c_X8_fitsIn, c_X8_plain, c_X8_cutBy, c_X8_measure, c_X8_bestOfAll, c_X8_best, c_X8_is, c_X8_cuts, c_X8_partWorth, c_X8_grow, c_X8_usedOf, c_X8_parts, c_X8_cutOnes, c_X8_wasted, c_X8_deep, c_X8_told, c_X8_node, c_X8_picture, c_X8_stage, c_X8_staged, c_X8_sizes, c_X8_more, c_X8_common, c_X8_lowest, c_X8_bound, c_X8_comes, c_X8_see, c_X8_isSeen, c_X8_fits, c_X8_odds, c_X8_mean, c_X8_event, c_X8_happens, c_X8_after, c_X8_book, c_X8_looked, c_X8_isTape, c_X8_judge, c_X8_image, c_X8_undo, c_X8_count, c_X8_tape, c_X8_lowestBits, c_X8_item, c_X8_peek, c_X8_shift, c_J13_bitCount_95d88, c_J0_length_8abf5, c_J0_indexOf_0f7a4, c_J0_indexOf_7cf53, c_J0_coder_7d493, c_J0_isLatin1_aae02, c_J1_canEncode_9a6ad, c_J1_indexOf_4cfef, c_J1_indexOfChar_4cfef, c_J7_fill_d0a16, c_J7_fill_53178, Option.some.injEq, Sum.inl.injEq, Sum.inr.injEq, reduceCtorEq, Nat.reduceLeDiff, Nat.reduceAdd, or_true, true_or, false_or, or_false, and_false, false_and, Int.toNat_natCast, Int.reduceLT, Int.reduceLE, Int.reduceEq, Int.reduceNe, Int.reduceAdd, Int.reduceMul, Int.reduceSub, Int.reduceNeg, Nat.reduceLT, Nat.reduceMul, Nat.reduceEqDiff, implies_true, Int.reduceToNat, Decidable.not_not, qS_ne, ne_eq, qS_qS]
      (repeat' (first | apply And.intro | (refine imp_i ?_; intro _))) <;> try omega
      refine ih hlt (by omega) _ (by omega) (by omega) (fun t t0 t1 => ?_) ?_ _ _
      · by_cases e : t = j
        · rw [e]; omega
        · have := hle t t0 (by omega)
          omega
      · by_cases c : m ≤ C j
        · exact Or.inr ⟨j, by omega, by omega, by omega⟩
        · rcases hor with e | ⟨t, t0, t1, t2⟩
          · omega
          · exact Or.inr ⟨t, t0, by omega, by omega⟩
    · have e : m = DX a := by
        have u1 : DX a ≤ m := by
          rcases g2 with e | ⟨t, t1, t2⟩
          · omega
          · have := hle t (by omega) (by omega)
            rw [show (0 : Int) + (t : Int) = t by omega] at t2
            omega
        have u2 : m ≤ DX a := by
          rcases hor with e | ⟨t, t0, t1, t2⟩
          · omega
          · obtain ⟨-, -, q3, q4⟩ := g1 t.toNat (by omega)
            rw [show (0 : Int) + ((t.toNat : Nat) : Int) = t by omega] at q3 q4
            omega
        omega
      rw [← e] at hR
      (repeat' (first | apply And.intro | (refine imp_i ?_; intro _))) <;> try omega
      all_goals exact hR
  simp only [u_X8_deep_0, k_X8_deep_0, qb_iconst, qb_bipush, qb_sipush, qb_lconst0, qb_lconst1, qb_ldc, qb_ldc2, qb_iload0, qb_lload0, qb_aload0, qb_istore0, qb_astore0, qb_lstore0, qb_iinc0, qb_iload1, qb_lload1, qb_aload1, qb_istore1, qb_istore1k, qb_astore1, qb_astore1k, qb_lstore1, qb_lstore1k, qb_iinc1, qb_iinc1k, qb_iload2, qb_lload2, qb_aload2, qb_istore2, qb_istore2k, qb_astore2, qb_astore2k, qb_lstore2, qb_lstore2k, qb_iinc2, qb_iinc2k, qb_iload3, qb_lload3, qb_aload3, qb_istore3, qb_istore3k, qb_astore3, qb_astore3k, qb_lstore3, qb_lstore3k, qb_iinc3, qb_iinc3k, qb_iload4, qb_lload4, qb_aload4, qb_istore4, qb_istore4k, qb_astore4, qb_astore4k, qb_lstore4, qb_lstore4k, qb_iinc4, qb_iinc4k, qb_iload5, qb_lload5, qb_aload5, qb_istore5, qb_istore5k, qb_astore5, qb_astore5k, qb_lstore5, qb_lstore5k, qb_iinc5, qb_iinc5k, qb_iload6, qb_lload6, qb_aload6, qb_istore6, qb_istore6k, qb_astore6, qb_astore6k, qb_lstore6, qb_lstore6k, qb_iinc6, qb_iinc6k, qb_iload7, qb_lload7, qb_aload7, qb_istore7, qb_istore7k, qb_astore7, qb_astore7k, qb_lstore7, qb_lstore7k, qb_iinc7, qb_iinc7k, qb_iload8, qb_lload8, qb_aload8, qb_istore8, qb_istore8k, qb_astore8, qb_astore8k, qb_lstore8, qb_lstore8k, qb_iinc8, qb_iinc8k, qb_iload9, qb_lload9, qb_aload9, qb_istore9, qb_istore9k, qb_astore9, qb_astore9k, qb_lstore9, qb_lstore9k, qb_iinc9, qb_iinc9k, qb_iload10, qb_lload10, qb_aload10, qb_istore10, qb_istore10k, qb_astore10, qb_astore10k, qb_lstore10, qb_lstore10k, qb_iinc10, qb_iinc10k, qb_iload11, qb_lload11, qb_aload11, qb_istore11, qb_istore11k, qb_astore11, qb_astore11k, qb_lstore11, qb_lstore11k, qb_iinc11, qb_iinc11k, qb_iload12, qb_lload12, qb_aload12, qb_istore12, qb_istore12k, qb_astore12, qb_astore12k, qb_lstore12, qb_lstore12k, qb_iinc12, qb_iinc12k, qb_iadd, qb_isub, qb_imul, qb_iand, qb_ior, qb_ishl, qb_ishr, qb_iushr, qb_idiv, qb_irem, qb_i2l, qb_i2b, qb_i2s, qb_i2c, qb_l2i, qb_ladd, qb_lsub, qb_lmul, qb_land, qb_lor, qb_ldiv, qb_lrem, qb_lshl, qb_lushr, qb_lcmp, qb_dupi, qb_popi, qb_dupr, qb_popr, qb_dup2, qb_getfield, qb_putfield, qb_getstatic, qb_getstaticJ, qb_iaload, qb_baload, qb_laload, qb_aaload, qb_iastore, qb_bastore, qb_lastore, qb_arraylength, qb_icmp_eq, qb_if_eq, qb_icmp_ne, qb_if_ne, qb_icmp_lt, qb_if_lt, qb_icmp_ge, qb_if_ge, qb_icmp_gt, qb_if_gt, qb_icmp_le, qb_if_le, qb_goto, qb_nop, qb_table, qb_lookup, qb_iret, qb_zret, qb_bret, qb_lret, qb_aret, qb_vret, qb_invv0, qb_invs0, qb_invn0, qb_invv1, qb_invs1, qb_invn1, qb_invv2, qb_invs2, qb_invn2, qb_invv3, qb_invs3, qb_invn3, qb_invv4, qb_invs4, qb_invn4, qb_invv5, qb_invs5, qb_invn5, qb_invv6, qb_invs6, qb_invn6, qb_invv7, qb_invs7, qb_invn7, qb_max, qb_min, qb_copy, qob_s, qai_s, qalg_s, qar_3, qar_4, qaln_s, qso_s, qcpc_i, qcpc_l, qfit_0, qfit_1, qfit_2, qsw_n, qsw_c, qlk_n, qlk_c, qcs_n, qcs_i, qcs_l, qcs_r, qts, qtn, qS_same, qU_same, List.getElem?_cons_zero, List.getElem?_cons_succ, List.set_cons_zero, List.set_cons_succ, List.length_cons, List.length_nil, true_and, and_true, true_imp_iff, false_imp_iff, not_true_eq_false, not_false_eq_true, eq_self, List.toList_toArray, List.map_cons, List.map_nil, c_X0_reckon, c_X0_grow, c_X0_settle, c_X0_name, c_X0_write, c_X0_fact, c_X0_timesUsed, c_X0_wasted, c_X0_partOn, c_X0_telling, c_X0_firstOtherwise, c_X1_append, c_X1_first, c_X1_second, c_X1_copyFrom, c_X2_copyFrom, c_X2_has, c_X2_fact, c_X2_write, c_X2_hasSquare, c_X2_hasPiece, c_X2_isSound, c_X2_isOfSize, c_X2_leastPart, c_X2_greatestWorth, c_X2_lengths, c_X2_befall, c_X3_copyFrom, c_X4_become, c_X4_hasPlace, c_X4_hasRange, c_X4_asItem, c_X5_append, c_X5_sign, c_X5_isDigit, c_X5_digit, c_X5_worth, c_X5_digitsDue, c_X5_firstFault, c_X5_clauseBehind, c_X6_at, c_X6_put, c_X6_ofPlate, c_X6_layParts, c_X6_layPartsOfSize, c_X6_cutAll, c_X6_cutAllOfSize, c_X6_cutOrNot, c_X6_together, c_X6_leastCut, c_X7_plate, c_X7_kerf, c_X7_part, c_X7_renew, c_X7_turn, c_X7_of, c_X7_defect, c_X7_mend, c_X7_feed, c_X7_read, c_X7_best, c_X7_is, c_X7_told, c_X7_node, c_X7_picture, c_X7_staged, c_X7_sizes, c_X7_more, c_X7_bound, c_X7_see, c_X7_fits, c_X7_odds, c_X7_mean, c_X7_event, c_X7_after, c_X7_book, c_X7_looked, c_X7_judge, c_X7_image, c_X7_undo, c_X7_count, c_X7_tape, c_X7_item, c_X7_peek, c_X7_shift, c_X7_isSide, c_X7_isWorth, c_X7_isOneOfTwo, c_X7_isTape, c_X7_waysOnly, c_X7_squares, c_X7_lowest, c_X7_isSum, c_X7_freshCuts, c_X7_rewrite, c_X7_tryWorth, c_X7_tellUse, c_X7_isEvent, c_X7_doClauses, c_X7_doClause, c_X8_in, c_X8_isPart, c_X8_think, c_X8_forget, c_X8_plate, c_X8_kerf, c_X8_part, c_X8_renew, c_X8_turn, c_X8_of, c_X8_isSquare, c_X8_defects, c_X8_clearDefects, c_X8_defect, c_X8_mend, c_X8_feed, c_X8_isDigit, c_X8_digit, c_X8_isOne, c_X8_faultOf, c_X8_does, c_X8_read, c_X8_at, c_X8_isPiece, c_X8_isClear, c_X8_fitsIn, c_X8_plain, c_X8_cutBy, c_X8_measure, c_X8_bestOfAll, c_X8_best, c_X8_is, c_X8_cuts, c_X8_partWorth, c_X8_grow, c_X8_usedOf, c_X8_parts, c_X8_cutOnes, c_X8_wasted, c_X8_deep, c_X8_told, c_X8_node, c_X8_picture, c_X8_stage, c_X8_staged, c_X8_sizes, c_X8_more, c_X8_common, c_X8_lowest, c_X8_bound, c_X8_comes, c_X8_see, c_X8_isSeen, c_X8_fits, c_X8_odds, c_X8_mean, c_X8_event, c_X8_happens, c_X8_after, c_X8_book, c_X8_looked, c_X8_isTape, c_X8_judge, c_X8_image, c_X8_undo, c_X8_count, c_X8_tape, c_X8_lowestBits, c_X8_item, c_X8_peek, c_X8_shift, c_J13_bitCount_95d88, c_J0_length_8abf5, c_J0_indexOf_0f7a4, c_J0_indexOf_7cf53, c_J0_coder_7d493, c_J0_isLatin1_aae02, c_J1_canEncode_9a6ad, c_J1_indexOf_4cfef, c_J1_indexOfChar_4cfef, c_J7_fill_d0a16, c_J7_fill_53178, Option.some.injEq, Sum.inl.injEq, Sum.inr.injEq, reduceCtorEq, Nat.reduceLeDiff, Nat.reduceAdd, or_true, true_or, false_or, or_false, and_false, false_and, Int.toNat_natCast, Int.reduceLT, Int.reduceLE, Int.reduceEq, Int.reduceNe, Int.reduceAdd, Int.reduceMul, Int.reduceSub, Int.reduceNeg, Nat.reduceLT, Nat.reduceMul, Nat.reduceEqDiff, implies_true, Int.reduceToNat, Decidable.not_not, qS_ne, ne_eq, qS_qS]
  exact key 0 (by omega) (by omega) 0 (by omega) (by omega) (fun t t0 t1 => by omega) (Or.inl rfl) _ _
end
