/-! ===== the class: parts by size, tables ===== -/
abbrev sp (w : Int) : Int := qspan w.toNat
theorem sp_v {w : Int} (h1 : 1 ≤ w) (h2 : w ≤ 7) : (w = 1 ∧ sp w = 0) ∨ (w = 2 ∧ sp w = 7) ∨ (w = 3 ∧ sp w = 13) ∨ (w = 4 ∧ sp w = 18) ∨ (w = 5 ∧ sp w = 22) ∨ (w = 6 ∧ sp w = 25) ∨ (w = 7 ∧ sp w = 27) := by
  rcases (show w = 1 ∨ w = 2 ∨ w = 3 ∨ w = 4 ∨ w = 5 ∨ w = 6 ∨ w = 7 by omega) with rfl | rfl | rfl | rfl | rfl | rfl | rfl
  · exact Or.inl ⟨rfl, rfl⟩
  · exact Or.inr (Or.inl ⟨rfl, rfl⟩)
  · exact Or.inr (Or.inr (Or.inl ⟨rfl, rfl⟩))
  · exact Or.inr (Or.inr (Or.inr (Or.inl ⟨rfl, rfl⟩)))
  · exact Or.inr (Or.inr (Or.inr (Or.inr (Or.inl ⟨rfl, rfl⟩))))
  · exact Or.inr (Or.inr (Or.inr (Or.inr (Or.inr (Or.inl ⟨rfl, rfl⟩)))))
  · exact Or.inr (Or.inr (Or.inr (Or.inr (Or.inr (Or.inr ⟨rfl, rfl⟩)))))
theorem sp_b {x w : Int} (h1 : 1 ≤ w) (h2 : w ≤ 7) (h3 : 0 ≤ x) (h4 : x + w ≤ 7) : 0 ≤ sp w + x ∧ sp w + x ≤ 27 := by
  rcases sp_v h1 h2 with ⟨e, g⟩ | ⟨e, g⟩ | ⟨e, g⟩ | ⟨e, g⟩ | ⟨e, g⟩ | ⟨e, g⟩ | ⟨e, g⟩ <;> rw [g] <;> omega
theorem sp_inj {x w x' w' : Int} (h1 : 1 ≤ w) (h2 : w ≤ 7) (h3 : 0 ≤ x) (h4 : x + w ≤ 7) (g1 : 1 ≤ w') (g2 : w' ≤ 7) (g3 : 0 ≤ x') (g4 : x' + w' ≤ 7) (e : sp w + x = sp w' + x') : x = x' ∧ w = w' := by
  rcases sp_v h1 h2 with ⟨e1, q1⟩ | ⟨e1, q1⟩ | ⟨e1, q1⟩ | ⟨e1, q1⟩ | ⟨e1, q1⟩ | ⟨e1, q1⟩ | ⟨e1, q1⟩ <;> rw [q1] at e <;> rcases sp_v g1 g2 with ⟨e2, q2⟩ | ⟨e2, q2⟩ | ⟨e2, q2⟩ | ⟨e2, q2⟩ | ⟨e2, q2⟩ | ⟨e2, q2⟩ | ⟨e2, q2⟩ <;> rw [q2] at e <;> omega
def Jx (x y w h : Int) : Int := (sp w + x) * 28 + sp h + y
abbrev TJ (t : Nat → Int) : qT := fun x y w h => t (Jx x y w h).toNat
theorem Jx_b {x y w h : Int} (h1 : 1 ≤ w) (h2 : 0 ≤ x) (h3 : x + w ≤ 7) (g1 : 1 ≤ h) (g2 : 0 ≤ y) (g3 : y + h ≤ 7) : 0 ≤ Jx x y w h ∧ Jx x y w h ≤ 783 := by
  have a1 := sp_b h1 (by omega) h2 h3
  have a2 := sp_b g1 (by omega) g2 g3
  unfold Jx
  omega
theorem Jx_inj {x y w h x' y' w' h' : Int} (h1 : 1 ≤ w) (h2 : 0 ≤ x) (h3 : x + w ≤ 7) (g1 : 1 ≤ h) (g2 : 0 ≤ y) (g3 : y + h ≤ 7) (h1' : 1 ≤ w') (h2' : 0 ≤ x') (h3' : x' + w' ≤ 7) (g1' : 1 ≤ h') (g2' : 0 ≤ y') (g3' : y' + h' ≤ 7) (e : (Jx x y w h).toNat = (Jx x' y' w' h').toNat) : x = x' ∧ y = y' ∧ w = w' ∧ h = h' := by
  have a1 := sp_b h1 (by omega) h2 h3
  have a2 := sp_b g1 (by omega) g2 g3
  have a3 := sp_b h1' (by omega) h2' h3'
  have a4 := sp_b g1' (by omega) g2' g3'
  have b1 := Jx_b h1 h2 h3 g1 g2 g3
  have b2 := Jx_b h1' h2' h3' g1' g2' g3'
  have e : Jx x y w h = Jx x' y' w' h' := by omega
  unfold Jx at e
  have e1 : sp w + x = sp w' + x' := by omega
  have e2 : sp h + y = sp h' + y' := by omega
  obtain ⟨i1, i2⟩ := sp_inj h1 (by omega) h2 h3 h1' (by omega) h2' h3' e1
  obtain ⟨i3, i4⟩ := sp_inj g1 (by omega) g2 g3 g1' (by omega) g2' g3' e2
  exact ⟨i1, i3, i2, i4⟩
section
variable {d : Nat} {h : qH} {a : Nat → Int} {R : qR} {su fa wo tb : Nat} {D : Int64} {ff t : Nat → Int}
theorem isOfSize_s {q w hh : Int} (hS : RepS h su fa a D ff) (hW : WF a) (h0 : 0 ≤ q) (h1 : q < a 3) (hw : qin w) (hh' : qin hh) {o4 o5 : Option qV} (hG : Fit a q w hh → R (some (.inl 1)) h) (hB : ¬ Fit a q w hh → R (some (.inl 0)) h) : Wp (d + 1) 22 0 [some (.inr (.inr (some su))), some (.inl q), some (.inl w), some (.inl hh), o4, o5] [] h R := by
  obtain ⟨hs, hf, hff, -⟩ := hS
  obtain ⟨b1, b2, b3, b4⟩ := hW.2.2.2.2.1 q h0 h1
  have b5 := hW.2.2.2.1
  have f0 : ff (q * 4 + 0).toNat = a (4 + q).toNat := by rw [hff q 0 h0 h1 (by omega) (by omega)]; congr 2
  have f1 : ff (q * 4 + 1).toNat = a (9 + q).toNat := by rw [hff q 1 h0 h1 (by omega) (by omega)]; congr 2
  have f3 : ff (q * 4 + 3).toNat = a (19 + q).toNat := by rw [hff q 3 h0 h1 (by omega) (by omega)]; congr 2
  simp only [u_X2_isOfSize_0, k_X2_isOfSize_0, u_X2_isOfSize_1, k_X2_isOfSize_1, u_X2_isOfSize_2, k_X2_isOfSize_2, u_X2_isOfSize_3, k_X2_isOfSize_3, u_X2_isOfSize_4, k_X2_isOfSize_4, u_X2_fact_0, k_X2_fact_0, u_X2_fact_1, k_X2_fact_1, u_X2_fact_2, k_X2_fact_2, qb_iconst, qb_bipush, qb_sipush, qb_lconst0, qb_lconst1, qb_ldc, qb_ldc2, qb_iload0, qb_lload0, qb_aload0, qb_istore0, qb_astore0, qb_lstore0, qb_iinc0, qb_iload1, qb_lload1, qb_aload1, qb_istore1, qb_istore1k, qb_astore1, qb_astore1k, qb_lstore1, qb_lstore1k, qb_iinc1, qb_iinc1k, qb_iload2, qb_lload2, qb_aload2, qb_istore2, qb_istore2k, qb_astore2, qb_astore2k, qb_lstore2, qb_lstore2k, qb_iinc2, qb_iinc2k, qb_iload3, qb_lload3, qb_aload3, qb_istore3, qb_istore3k, qb_astore3, qb_astore3k, qb_lstore3, qb_lstore3k, qb_iinc3, qb_iinc3k, qb_iload4, qb_lload4, qb_aload4, qb_istore4, qb_istore4k, qb_astore4, qb_astore4k, qb_lstore4, qb_lstore4k, qb_iinc4, qb_iinc4k, qb_iload5, qb_lload5, qb_aload5, qb_istore5, qb_istore5k, qb_astore5, qb_astore5k, qb_lstore5, qb_lstore5k, qb_iinc5, qb_iinc5k, qb_iload6, qb_lload6, qb_aload6, qb_istore6, qb_istore6k, qb_astore6, qb_astore6k, qb_lstore6, qb_lstore6k, qb_iinc6, qb_iinc6k, qb_iload7, qb_lload7, qb_aload7, qb_istore7, qb_istore7k, qb_astore7, qb_astore7k, qb_lstore7, qb_lstore7k, qb_iinc7, qb_iinc7k, qb_iload8, qb_lload8, qb_aload8, qb_istore8, qb_istore8k, qb_astore8, qb_astore8k, qb_lstore8, qb_lstore8k, qb_iinc8, qb_iinc8k, qb_iload9, qb_lload9, qb_aload9, qb_istore9, qb_istore9k, qb_astore9, qb_astore9k, qb_lstore9, qb_lstore9k, qb_iinc9, qb_iinc9k, qb_iload10, qb_lload10, qb_aload10, qb_istore10, qb_istore10k, qb_astore10, qb_astore10k, qb_lstore10, qb_lstore10k, qb_iinc10, qb_iinc10k, qb_iload11, qb_lload11, qb_aload11, qb_istore11, qb_istore11k, qb_astore11, qb_astore11k, qb_lstore11, qb_lstore11k, qb_iinc11, qb_iinc11k, qb_iload12, qb_lload12, qb_aload12, qb_istore12, qb_istore12k, qb_astore12, qb_astore12k, qb_lstore12, qb_lstore12k, qb_iinc12, qb_iinc12k, qb_iadd, qb_isub, qb_imul, qb_iand, qb_ior, qb_ishl, qb_ishr, qb_iushr, qb_idiv, qb_irem, qb_i2l, qb_i2b, qb_i2s, qb_i2c, qb_l2i, qb_ladd, qb_lsub, qb_lmul, qb_land, qb_lor, qb_ldiv, qb_lrem, qb_lshl, qb_lushr, qb_lcmp, qb_dupi, qb_popi, qb_dupr, qb_popr, qb_dup2, qb_getfield, qb_putfield, qb_getstatic, qb_getstaticJ, qb_iaload, qb_baload, qb_laload, qb_aaload, qb_iastore, qb_bastore, qb_lastore, qb_arraylength, qb_icmp_eq, qb_if_eq, qb_icmp_ne, qb_if_ne, qb_icmp_lt, qb_if_lt, qb_icmp_ge, qb_if_ge, qb_icmp_gt, qb_if_gt, qb_icmp_le, qb_if_le, qb_goto, qb_nop, qb_table, qb_lookup, qb_iret, qb_zret, qb_bret, qb_lret, qb_aret, qb_vret, qb_invv0, qb_invs0, qb_invn0, qb_invv1, qb_invs1, qb_invn1, qb_invv2, qb_invs2, qb_invn2, qb_invv3, qb_invs3, qb_invn3, qb_invv4, qb_invs4, qb_invn4, qb_invv5, qb_invs5, qb_invn5, qb_invv6, qb_invs6, qb_invn6, qb_invv7, qb_invs7, qb_invn7, qb_max, qb_min, qb_copy, qob_s, qai_s, qalg_s, qar_3, qar_4, qaln_s, qso_s, qcpc_i, qcpc_l, qfit_0, qfit_1, qfit_2, qsw_n, qsw_c, qlk_n, qlk_c, qcs_n, qcs_i, qcs_l, qcs_r, qts, qtn, qS_same, qU_same, List.getElem?_cons_zero, List.getElem?_cons_succ, List.set_cons_zero, List.set_cons_succ, List.length_cons, List.length_nil, true_and, and_true, true_imp_iff, false_imp_iff, not_true_eq_false, not_false_eq_true, eq_self, List.toList_toArray, List.map_cons, List.map_nil, c_X0_reckon, c_X0_grow, c_X0_settle, c_X0_name, c_X0_write, c_X0_fact, c_X0_timesUsed, c_X0_wasted, c_X0_partOn, c_X0_telling, c_X0_firstOtherwise, c_X1_append, c_X1_first, c_X1_second, c_X1_copyFrom, c_X2_copyFrom, c_X2_has, c_X2_fact, c_X2_write, c_X2_hasSquare, c_X2_hasPiece, c_X2_isSound, c_X2_isOfSize, c_X2_leastPart, c_X2_greatestWorth, c_X2_lengths, c_X2_befall, c_X3_copyFrom, c_X4_become, c_X4_hasPlace, c_X4_hasRange, c_X4_asItem, c_X5_append, c_X5_sign, c_X5_isDigit, c_X5_digit, c_X5_worth, c_X5_digitsDue, c_X5_firstFault, c_X5_clauseBehind, c_X6_at, c_X6_put, c_X6_ofPlate, c_X6_layParts, c_X6_layPartsOfSize, c_X6_cutAll, c_X6_cutAllOfSize, c_X6_cutOrNot, c_X6_together, c_X6_leastCut, c_X7_plate, c_X7_kerf, c_X7_part, c_X7_renew, c_X7_turn, c_X7_of, c_X7_defect, c_X7_mend, c_X7_feed, c_X7_read, c_X7_best, c_X7_is, c_X7_told, c_X7_node, c_X7_picture, c_X7_staged, c_X7_sizes, c_X7_more, c_X7_bound, c_X7_see, c_X7_fits, c_X7_odds, c_X7_mean, c_X7_event, c_X7_after, c_X7_book, c_X7_looked, c_X7_judge, c_X7_image, c_X7_undo, c_X7_count, c_X7_tape, c_X7_item, c_X7_peek, c_X7_shift, c_X7_isSide, c_X7_isWorth, c_X7_isOneOfTwo, c_X7_isTape, c_X7_waysOnly, c_X7_squares, c_X7_lowest, c_X7_isSum, c_X7_freshCuts, c_X7_rewrite, c_X7_tryWorth, c_X7_tellUse, c_X7_isEvent, c_X7_doClauses, c_X7_doClause, c_X8_in, c_X8_isPart, c_X8_think, c_X8_forget, c_X8_plate, c_X8_kerf, c_X8_part, c_X8_renew, c_X8_turn, c_X8_of, c_X8_isSquare, c_X8_defects, c_X8_clearDefects, c_X8_defect, c_X8_mend, c_X8_feed, c_X8_isDigit, c_X8_digit, c_X8_isOne, c_X8_faultOf, c_X8_does, c_X8_read, c_X8_at, c_X8_isPiece, c_X8_isClear, c_X8_fitsIn, c_X8_plain, c_X8_cutBy, c_X8_measure, c_X8_bestOfAll, c_X8_best, c_X8_is, c_X8_cuts, c_X8_partWorth, c_X8_grow, c_X8_usedOf, c_X8_parts, c_X8_cutOnes, c_X8_wasted, c_X8_deep, c_X8_told, c_X8_node, c_X8_picture, c_X8_stage, c_X8_staged, c_X8_sizes, c_X8_more, c_X8_common, c_X8_lowest, c_X8_bound, c_X8_comes, c_X8_see, c_X8_isSeen, c_X8_fits, c_X8_odds, c_X8_mean, c_X8_event, c_X8_happens, c_X8_after, c_X8_book, c_X8_looked, c_X8_isTape, c_X8_judge, c_X8_image, c_X8_undo, c_X8_count, c_X8_tape, c_X8_lowestBits, c_X8_item, c_X8_peek, c_X8_shift, c_J13_bitCount_95d88, c_J0_length_8abf5, c_J0_indexOf_0f7a4, c_J0_indexOf_7cf53, c_J0_coder_7d493, c_J0_isLatin1_aae02, c_J1_canEncode_9a6ad, c_J1_indexOf_4cfef, c_J1_indexOfChar_4cfef, c_J7_fill_d0a16, c_J7_fill_53178, Option.some.injEq, Sum.inl.injEq, Sum.inr.injEq, reduceCtorEq, Nat.reduceLeDiff, Nat.reduceAdd, or_true, true_or, false_or, or_false, and_false, false_and, Int.toNat_natCast, Int.reduceLT, Int.reduceLE, Int.reduceEq, Int.reduceNe, Int.reduceAdd, Int.reduceMul, Int.reduceSub, Int.reduceNeg, Nat.reduceLT, Nat.reduceMul, Nat.reduceEqDiff, implies_true, Int.reduceToNat, Decidable.not_not, qS_ne, ne_eq, qS_qS, hs, hf, f0, f1, f3]
  (repeat' (first | apply And.intro | (refine imp_i ?_; intro _))) <;> try omega
  all_goals first
    | exact hG (by omega)
    | exact hB (by omega)
end
