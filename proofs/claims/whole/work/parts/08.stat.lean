/-! ===== static tables: methods, links, fields; their words ===== -/
def TBL : List Cond := lw_tbl.filter goodWord
theorem tb_of {ws : List Cond} (ps : List Nat) (h : ws = ps.filterMap (fun i => lw_tbl[i]?)) (hg : ws.all goodWord = true) : ∀ w ∈ ws, w ∈ TBL := by
  intro w hw
  have h1 := List.all_eq_true.mp hg w hw
  rw [h] at hw
  obtain ⟨i, -, hi⟩ := List.mem_filterMap.mp hw
  exact List.mem_filter.mpr ⟨List.mem_of_getElem? hi, h1⟩
theorem tb_tbl {w : Cond} (h : w ∈ TBL) : w ∈ lw_tbl := (List.mem_filter.mp h).1
theorem tb_good {ws : List Cond} (h : ∀ w ∈ ws, w ∈ TBL) : GoodIn TBL ws := fun w hw => ⟨h w hw, good_of_word (List.mem_filter.mp (h w hw)).2⟩
theorem tb_app {a b : List Cond} (ha : ∀ w ∈ a, w ∈ TBL) (hb : ∀ w ∈ b, w ∈ TBL) : ∀ w ∈ a ++ b, w ∈ TBL := fun w h => (List.mem_append.mp h).elim (ha w) (hb w)
def qon (o : Nat) : String := qnth [RX0, RX1, RX2, RX3, RX4, RX5, RX6, RX7, RX8, RL, RJ13, RJ0, RJ1, RJ7] o ""
def qcl (ci : Nat) : vw_C := qnth vwCl ci (RX0, TX0, 9)
theorem qcw_0 : ∀ w ∈ u_ws RX0 TX0 9, w ∈ TBL := tb_of [184, 186, 188, 190, 192, 194, 196, 198, 200] (by decide +kernel) (by decide +kernel)
theorem qcw_1 : ∀ w ∈ u_ws RX1 TX1 2, w ∈ TBL := tb_of [129, 131] (by decide +kernel) (by decide +kernel)
theorem qcw_2 : ∀ w ∈ u_ws RX2 TX2 6, w ∈ TBL := tb_of [102, 104, 106, 108, 110, 112] (by decide +kernel) (by decide +kernel)
theorem qcw_3 : ∀ w ∈ u_ws RX3 TX3 4, w ∈ TBL := tb_of [142, 144, 146, 148] (by decide +kernel) (by decide +kernel)
theorem qcw_4 : ∀ w ∈ u_ws RX4 TX4 3, w ∈ TBL := tb_of [232, 234, 236] (by decide +kernel) (by decide +kernel)
theorem qcw_5 : ∀ w ∈ u_ws RX5 TX5 2, w ∈ TBL := tb_of [214, 216] (by decide +kernel) (by decide +kernel)
theorem qcw_6 : ∀ w ∈ u_ws RX6 TX6 2, w ∈ TBL := tb_of [165, 167] (by decide +kernel) (by decide +kernel)
theorem qcw_7 : ∀ w ∈ u_ws RX7 TX7 9, w ∈ TBL := tb_of [249, 251, 253, 255, 257, 259, 261, 263, 265] (by decide +kernel) (by decide +kernel)
theorem qcw_8 : ∀ w ∈ u_ws RX8 TX8 16, w ∈ TBL := tb_of [734, 736, 738, 740, 742, 744, 746, 748, 750, 752, 754, 756, 758, 760, 762, 764] (by decide +kernel) (by decide +kernel)
abbrev qClOk (q : vw_C) : Prop := (∀ w ∈ u_ws q.1 q.2.1 q.2.2, w ∈ TBL) ∧ (∃ ty : Nat → FieldType, ∀ k, k < q.2.2 → parseFieldDescriptor (q.2.1 k).2.2.1 = some (ty k)) ∧ (∀ a, a < q.2.2 → ∀ b, b < q.2.2 → a ≠ b → (q.2.1 a).2.1 ≠ (q.2.1 b).2.1) ∧ ∀ k, k < q.2.2 → (q.2.1 k).1 = q.1
theorem qcl_ok : ∀ q ∈ vwCl, qClOk q := List.forall_mem_cons.mpr ⟨⟨qcw_0, ⟨tyX0, tyX0_ok⟩, nmX0, by decide +kernel⟩, List.forall_mem_cons.mpr ⟨⟨qcw_1, ⟨tyX1, tyX1_ok⟩, nmX1, by decide +kernel⟩, List.forall_mem_cons.mpr ⟨⟨qcw_2, ⟨tyX2, tyX2_ok⟩, nmX2, by decide +kernel⟩, List.forall_mem_cons.mpr ⟨⟨qcw_3, ⟨tyX3, tyX3_ok⟩, nmX3, by decide +kernel⟩, List.forall_mem_cons.mpr ⟨⟨qcw_4, ⟨tyX4, tyX4_ok⟩, nmX4, by decide +kernel⟩, List.forall_mem_cons.mpr ⟨⟨qcw_5, ⟨tyX5, tyX5_ok⟩, nmX5, by decide +kernel⟩, List.forall_mem_cons.mpr ⟨⟨qcw_6, ⟨tyX6, tyX6_ok⟩, nmX6, by decide +kernel⟩, List.forall_mem_cons.mpr ⟨⟨qcw_7, ⟨tyX7, tyX7_ok⟩, nmX7, by decide +kernel⟩, List.forall_mem_cons.mpr ⟨⟨qcw_8, ⟨tyX8, tyX8_ok⟩, nmX8, by decide +kernel⟩, fun _ h => absurd h List.not_mem_nil⟩⟩⟩⟩⟩⟩⟩⟩⟩
theorem qcl_in {ci : Nat} (h : ci < 9) : vwCl[ci]? = some (qcl ci) ∧ qClOk (qcl ci) := by
  have h1 : ∀ ci, ci < 9 → vwCl[ci]? = some (qcl ci) := by
    intro ci h
    match ci, h with
    | 0, _ => rfl
    | 1, _ => rfl
    | 2, _ => rfl
    | 3, _ => rfl
    | 4, _ => rfl
    | 5, _ => rfl
    | 6, _ => rfl
    | 7, _ => rfl
    | 8, _ => rfl
    | n + 9, h => omega
  exact ⟨h1 ci h, qcl_ok _ (List.mem_of_getElem? (h1 ci h))⟩
def qFl : List (Nat × Nat × Nat × Nat) := [(0, 27, 0, 1), (0, 15, 0, 3), (0, 18, 0, 0), (0, 60, 2, 0), (0, 65, 2, 1), (0, 44, 0, 4), (0, 51, 0, 6), (0, 54, 0, 7), (0, 92, 2, 2), (0, 48, 0, 5), (0, 57, 0, 8), (0, 9, 0, 2), (0, 107, 1, 1), (1, 21, 1, 1), (1, 15, 1, 0), (2, 9, 2, 0), (2, 15, 2, 1), (2, 22, 2, 2), (2, 25, 2, 3), (2, 28, 2, 4), (2, 18, 2, 5), (3, 12, 3, 0), (3, 23, 3, 1), (3, 27, 3, 2), (3, 30, 3, 3), (4, 9, 4, 0), (4, 19, 4, 2), (4, 15, 4, 1), (5, 15, 5, 1), (5, 9, 5, 0), (6, 11, 6, 1), (6, 15, 6, 0), (6, 22, 2, 0), (6, 28, 2, 1), (6, 72, 2, 2), (7, 12, 7, 0), (7, 23, 3, 0), (7, 76, 2, 2), (7, 82, 2, 3), (7, 68, 2, 4), (7, 46, 7, 7), (7, 123, 5, 1), (7, 137, 0, 1), (7, 61, 2, 0), (7, 65, 2, 1), (7, 154, 0, 4), (7, 157, 0, 5), (7, 160, 0, 6), (7, 166, 0, 7), (7, 37, 7, 5), (7, 40, 7, 6), (7, 202, 3, 1), (7, 220, 3, 2), (7, 223, 1, 1), (7, 243, 3, 3), (7, 52, 7, 8), (7, 249, 4, 1), (7, 255, 4, 0), (7, 18, 7, 1), (7, 266, 7, 2), (7, 72, 7, 4), (7, 30, 7, 3), (8, 11, 8, 0), (8, 18, 8, 2), (8, 83, 8, 5), (8, 21, 8, 4), (8, 24, 8, 6), (8, 103, 8, 7), (8, 27, 8, 8), (8, 160, 8, 10), (8, 30, 8, 9), (8, 33, 8, 11), (8, 36, 8, 12), (8, 39, 8, 13), (8, 44, 8, 14), (8, 15, 8, 1), (8, 219, 8, 3), (8, 47, 8, 15)]
def qFw (e : Nat × Nat × Nat × Nat) : Cond := .fieldLink (qon e.1) e.2.1 (qcl e.2.2.1).1 ((qcl e.2.2.1).2.1 e.2.2.2).2.1 ((qcl e.2.2.1).2.1 e.2.2.2).2.2.1
theorem qFl_w : ∀ w ∈ qFl.map qFw, w ∈ TBL := tb_of [171, 174, 170, 87, 91, 175, 179, 181, 95, 177, 183, 173, 127, 126, 125, 85, 89, 93, 97, 99, 101, 134, 136, 138, 140, 227, 231, 229, 212, 211, 164, 163, 88, 92, 96, 240, 135, 94, 98, 100, 247, 213, 172, 86, 90, 176, 178, 180, 182, 245, 246, 137, 139, 128, 141, 248, 230, 228, 241, 242, 244, 243, 718, 720, 723, 722, 724, 725, 726, 728, 727, 729, 730, 731, 732, 719, 721, 733] (by decide +kernel) (by decide +kernel)
theorem qFl_s : ∀ e ∈ qFl, e.2.2.1 < 9 ∧ e.2.2.2 < (qcl e.2.2.1).2.2 := by decide +kernel
def qPl : List (Nat × Nat × Nat × Nat × Nat) := [(0, 44, 0, 4, 0), (0, 48, 0, 5, 0), (0, 51, 0, 6, 0), (0, 54, 0, 7, 0), (0, 57, 0, 8, 0), (1, 21, 1, 1, 0), (2, 9, 2, 0, 0), (2, 15, 2, 1, 0), (2, 22, 2, 2, 0), (2, 25, 2, 3, 0), (2, 28, 2, 4, 2), (4, 15, 4, 1, 0), (4, 19, 4, 2, 0), (5, 15, 5, 1, 0), (7, 61, 2, 0, 0), (7, 65, 2, 1, 0), (7, 68, 2, 4, 2), (7, 72, 7, 4, 1), (7, 76, 2, 2, 0), (7, 82, 2, 3, 0), (7, 123, 5, 1, 0), (7, 223, 1, 1, 0), (7, 266, 7, 2, 1), (8, 83, 8, 5, 0), (8, 103, 8, 7, 0), (8, 160, 8, 10, 0), (8, 219, 8, 3, 1)]
def qkt (k : Nat) : FieldType := qnth [.int, .boolean, .long, .byte] k .int
theorem qPl_w : ∀ w ∈ qPl.map (fun e => qFw (e.1, e.2.1, e.2.2.1, e.2.2.2.1)), w ∈ TBL := tb_of [175, 177, 179, 181, 183, 126, 85, 89, 93, 97, 99, 229, 231, 212, 86, 90, 100, 244, 94, 98, 213, 128, 242, 723, 725, 728, 721] (by decide +kernel) (by decide +kernel)
theorem qPl_s : ∀ e ∈ qPl, e.2.2.1 < 9 ∧ e.2.2.2.1 < (qcl e.2.2.1).2.2 ∧ ((qcl e.2.2.1).2.1 e.2.2.2.1).2.2.2 = false ∧ parseFieldDescriptor ((qcl e.2.2.1).2.1 e.2.2.2.1).2.2.1 = some (qkt e.2.2.2.2) ∧ e.2.2.2.2 < 3 := by decide +kernel
abbrev qMd : Type := MethodName × ByteArray × Nat × Option FieldType × Nat × List Nat
def qcd (i : Nat) : ByteArray := match lw_tbl[i]? with
  | some (.code _ b _ _) => b
  | _ => ByteArray.mk #[]
def qkey (c : Option Cond) : Option (MethodName × Nat × Option FieldType) := match c with
  | some (.code y _ n r) => some (y, n, r)
  | _ => none
abbrev qMk : Type := Nat × MethodName × Nat × Option FieldType × Nat × List Nat
def qmo (e : qMk) : qMd := (e.2.1, qcd e.1, e.2.2.1, e.2.2.2.1, e.2.2.2.2.1, e.2.2.2.2.2)
theorem qkey_o {i : Nat} {y : MethodName} {n : Nat} {r : Option FieldType} (h : qkey lw_tbl[i]? = some (y, n, r)) : Cond.code y (qcd i) n r ∈ TBL := by
  have h1 : lw_tbl[i]? = some (Cond.code y (qcd i) n r) := by
    unfold qkey at h
    unfold qcd
    split at h
    next y' b n' r' e =>
      rw [e]
      cases h
      rfl
    next => cases h
  exact List.mem_filter.mpr ⟨List.mem_of_getElem? h1, rfl⟩
def mk_X0_reckon : qMk := (321, yX0_reckon, 1, none, 0, [])
abbrev md_X0_reckon : qMd := qmo mk_X0_reckon
def mk_X0_grow : qMk := (383, yX0_grow, 10, none, 0, [])
abbrev md_X0_grow : qMd := qmo mk_X0_grow
def mk_X0_settle : qMk := (392, yX0_settle, 9, none, 0, [])
abbrev md_X0_settle : qMd := qmo mk_X0_settle
def mk_X0_name : qMk := (400, yX0_name, 4, none, 0, [])
abbrev md_X0_name : qMd := qmo mk_X0_name
def mk_X0_write : qMk := (387, yX0_write, 4, none, 0, [])
abbrev md_X0_write : qMd := qmo mk_X0_write
def mk_X0_fact : qMk := (396, yX0_fact, 3, (some .int), 0, [])
abbrev md_X0_fact : qMd := qmo mk_X0_fact
def mk_X0_timesUsed : qMk := (414, yX0_timesUsed, 2, (some .int), 0, [])
abbrev md_X0_timesUsed : qMd := qmo mk_X0_timesUsed
def mk_X0_wasted : qMk := (513, yX0_wasted, 1, (some .int), 0, [])
abbrev md_X0_wasted : qMd := qmo mk_X0_wasted
def mk_X0_partOn : qMk := (526, yX0_partOn, 6, (some .int), 0, [])
abbrev md_X0_partOn : qMd := qmo mk_X0_partOn
def mk_X0_telling : qMk := (651, yX0_telling, 3, (some .long), 0, [])
abbrev md_X0_telling : qMd := qmo mk_X0_telling
def mk_X0_firstOtherwise : qMk := (591, yX0_firstOtherwise, 3, (some .int), 0, [])
abbrev md_X0_firstOtherwise : qMd := qmo mk_X0_firstOtherwise
def mk_X1_append : qMk := (579, yX1_append, 4, (some .boolean), 1, [])
abbrev md_X1_append : qMd := qmo mk_X1_append
def mk_X1_first : qMk := (595, yX1_first, 2, (some .int), 1, [])
abbrev md_X1_first : qMd := qmo mk_X1_first
def mk_X1_second : qMk := (600, yX1_second, 2, (some .int), 1, [])
abbrev md_X1_second : qMd := qmo mk_X1_second
def mk_X1_copyFrom : qMk := (665, yX1_copyFrom, 2, none, 1, [])
abbrev md_X1_copyFrom : qMd := qmo mk_X1_copyFrom
def mk_X2_copyFrom : qMk := (537, yX2_copyFrom, 2, none, 2, [])
abbrev md_X2_copyFrom : qMd := qmo mk_X2_copyFrom
def mk_X2_has : qMk := (297, yX2_has, 2, (some .boolean), 2, [])
abbrev md_X2_has : qMd := qmo mk_X2_has
def mk_X2_fact : qMk := (305, yX2_fact, 3, (some .int), 2, [])
abbrev md_X2_fact : qMd := qmo mk_X2_fact
def mk_X2_write : qMk := (289, yX2_write, 4, none, 2, [])
abbrev md_X2_write : qMd := qmo mk_X2_write
def mk_X2_hasSquare : qMk := (422, yX2_hasSquare, 3, (some .boolean), 2, [])
abbrev md_X2_hasSquare : qMd := qmo mk_X2_hasSquare
def mk_X2_hasPiece : qMk := (495, yX2_hasPiece, 5, (some .boolean), 2, [])
abbrev md_X2_hasPiece : qMd := qmo mk_X2_hasPiece
def mk_X2_isSound : qMk := (343, yX2_isSound, 5, (some .boolean), 2, [])
abbrev md_X2_isSound : qMd := qmo mk_X2_isSound
def mk_X2_isOfSize : qMk := (337, yX2_isOfSize, 6, (some .boolean), 2, [])
abbrev md_X2_isOfSize : qMd := qmo mk_X2_isOfSize
def mk_X2_leastPart : qMk := (404, yX2_leastPart, 7, (some .int), 2, [])
abbrev md_X2_leastPart : qMd := qmo mk_X2_leastPart
def mk_X2_greatestWorth : qMk := (333, yX2_greatestWorth, 5, (some .int), 2, [])
abbrev md_X2_greatestWorth : qMd := qmo mk_X2_greatestWorth
def mk_X2_lengths : qMk := (551, yX2_lengths, 4, (some .int), 2, [])
abbrev md_X2_lengths : qMd := qmo mk_X2_lengths
def mk_X2_befall : qMk := (627, yX2_befall, 3, none, 2, [])
abbrev md_X2_befall : qMd := qmo mk_X2_befall
def mk_X3_copyFrom : qMk := (660, yX3_copyFrom, 2, none, 3, [])
abbrev md_X3_copyFrom : qMd := qmo mk_X3_copyFrom
def mk_X4_become : qMk := (685, yX4_become, 3, none, 4, [])
abbrev md_X4_become : qMd := qmo mk_X4_become
def mk_X4_hasPlace : qMk := (647, yX4_hasPlace, 2, (some .boolean), 4, [])
abbrev md_X4_hasPlace : qMd := qmo mk_X4_hasPlace
def mk_X4_hasRange : qMk := (708, yX4_hasRange, 3, (some .boolean), 4, [])
abbrev md_X4_hasRange : qMd := qmo mk_X4_hasRange
def mk_X4_asItem : qMk := (696, yX4_asItem, 3, (some .long), 4, [1])
abbrev md_X4_asItem : qMd := qmo mk_X4_asItem
def mk_X5_append : qMk := (441, yX5_append, 2, (some .boolean), 5, [])
abbrev md_X5_append : qMd := qmo mk_X5_append
def mk_X5_sign : qMk := (453, yX5_sign, 2, (some .int), 5, [])
abbrev md_X5_sign : qMd := qmo mk_X5_sign
def mk_X5_isDigit : qMk := (460, yX5_isDigit, 2, (some .boolean), 5, [])
abbrev md_X5_isDigit : qMd := qmo mk_X5_isDigit
def mk_X5_digit : qMk := (472, yX5_digit, 2, (some .int), 5, [])
abbrev md_X5_digit : qMd := qmo mk_X5_digit
def mk_X5_worth : qMk := (479, yX5_worth, 2, (some .int), 5, [])
abbrev md_X5_worth : qMd := qmo mk_X5_worth
def mk_X5_digitsDue : qMk := (456, yX5_digitsDue, 1, (some .int), 5, [])
abbrev md_X5_digitsDue : qMd := qmo mk_X5_digitsDue
def mk_X5_firstFault : qMk := (449, yX5_firstFault, 5, (some .int), 5, [])
abbrev md_X5_firstFault : qMd := qmo mk_X5_firstFault
def mk_X5_clauseBehind : qMk := (486, yX5_clauseBehind, 3, (some .int), 5, [])
abbrev md_X5_clauseBehind : qMd := qmo mk_X5_clauseBehind
def mk_X6_at : qMk := (369, yX6_at, 5, (some .int), 6, [])
abbrev md_X6_at : qMd := qmo mk_X6_at
def mk_X6_put : qMk := (351, yX6_put, 6, none, 6, [])
abbrev md_X6_put : qMd := qmo mk_X6_put
def mk_X6_ofPlate : qMk := (509, yX6_ofPlate, 1, (some .int), 6, [])
abbrev md_X6_ofPlate : qMd := qmo mk_X6_ofPlate
def mk_X6_layParts : qMk := (325, yX6_layParts, 3, none, 6, [])
abbrev md_X6_layParts : qMd := qmo mk_X6_layParts
def mk_X6_layPartsOfSize : qMk := (329, yX6_layPartsOfSize, 6, none, 6, [])
abbrev md_X6_layPartsOfSize : qMd := qmo mk_X6_layPartsOfSize
def mk_X6_cutAll : qMk := (357, yX6_cutAll, 4, none, 6, [])
abbrev md_X6_cutAll : qMd := qmo mk_X6_cutAll
def mk_X6_cutAllOfSize : qMk := (361, yX6_cutAllOfSize, 9, none, 6, [])
abbrev md_X6_cutAllOfSize : qMd := qmo mk_X6_cutAllOfSize
def mk_X6_cutOrNot : qMk := (365, yX6_cutOrNot, 8, (some .int), 6, [])
abbrev md_X6_cutOrNot : qMd := qmo mk_X6_cutOrNot
def mk_X6_together : qMk := (376, yX6_together, 8, (some .int), 6, [])
abbrev md_X6_together : qMd := qmo mk_X6_together
def mk_X6_leastCut : qMk := (409, yX6_leastCut, 9, (some .int), 6, [])
abbrev md_X6_leastCut : qMd := qmo mk_X6_leastCut
def mk_X7_plate : qMk := (271, yX7_plate, 3, (some .int), 7, [])
abbrev md_X7_plate : qMd := qmo mk_X7_plate
def mk_X7_kerf : qMk := (278, yX7_kerf, 3, (some .int), 7, [])
abbrev md_X7_kerf : qMd := qmo mk_X7_kerf
def mk_X7_part : qMk := (282, yX7_part, 6, (some .int), 7, [])
abbrev md_X7_part : qMd := qmo mk_X7_part
def mk_X7_renew : qMk := (293, yX7_renew, 5, (some .int), 7, [])
abbrev md_X7_renew : qMd := qmo mk_X7_renew
def mk_X7_turn : qMk := (309, yX7_turn, 3, (some .int), 7, [])
abbrev md_X7_turn : qMd := qmo mk_X7_turn
def mk_X7_of : qMk := (313, yX7_of, 3, (some .int), 7, [])
abbrev md_X7_of : qMd := qmo mk_X7_of
def mk_X7_defect : qMk := (418, yX7_defect, 6, (some .int), 7, [3])
abbrev md_X7_defect : qMd := qmo mk_X7_defect
def mk_X7_mend : qMk := (433, yX7_mend, 2, (some .int), 7, [])
abbrev md_X7_mend : qMd := qmo mk_X7_mend
def mk_X7_feed : qMk := (437, yX7_feed, 2, (some .int), 7, [])
abbrev md_X7_feed : qMd := qmo mk_X7_feed
def mk_X7_read : qMk := (445, yX7_read, 3, (some .int), 7, [])
abbrev md_X7_read : qMd := qmo mk_X7_read
def mk_X7_best : qMk := (491, yX7_best, 5, (some .int), 7, [])
abbrev md_X7_best : qMd := qmo mk_X7_best
def mk_X7_is : qMk := (500, yX7_is, 5, (some .int), 7, [])
abbrev md_X7_is : qMd := qmo mk_X7_is
def mk_X7_told : qMk := (505, yX7_told, 2, (some .int), 7, [])
abbrev md_X7_told : qMd := qmo mk_X7_told
def mk_X7_node : qMk := (517, yX7_node, 3, (some .int), 7, [])
abbrev md_X7_node : qMd := qmo mk_X7_node
def mk_X7_picture : qMk := (522, yX7_picture, 3, (some .int), 7, [])
abbrev md_X7_picture : qMd := qmo mk_X7_picture
def mk_X7_staged : qMk := (530, yX7_staged, 5, (some .int), 7, [])
abbrev md_X7_staged : qMd := qmo mk_X7_staged
def mk_X7_sizes : qMk := (547, yX7_sizes, 6, (some .int), 7, [])
abbrev md_X7_sizes : qMd := qmo mk_X7_sizes
def mk_X7_more : qMk := (559, yX7_more, 2, (some .long), 7, [])
abbrev md_X7_more : qMd := qmo mk_X7_more
def mk_X7_bound : qMk := (564, yX7_bound, 11, (some .long), 7, [2, 4, 7, 9])
abbrev md_X7_bound : qMd := qmo mk_X7_bound
def mk_X7_see : qMk := (571, yX7_see, 3, (some .int), 7, [])
abbrev md_X7_see : qMd := qmo mk_X7_see
def mk_X7_fits : qMk := (583, yX7_fits, 6, (some .int), 7, [])
abbrev md_X7_fits : qMd := qmo mk_X7_fits
def mk_X7_odds : qMk := (604, yX7_odds, 5, (some .long), 7, [])
abbrev md_X7_odds : qMd := qmo mk_X7_odds
def mk_X7_mean : qMk := (609, yX7_mean, 2, (some .long), 7, [])
abbrev md_X7_mean : qMd := qmo mk_X7_mean
def mk_X7_event : qMk := (613, yX7_event, 3, (some .int), 7, [])
abbrev md_X7_event : qMd := qmo mk_X7_event
def mk_X7_after : qMk := (621, yX7_after, 3, (some .int), 7, [])
abbrev md_X7_after : qMd := qmo mk_X7_after
def mk_X7_book : qMk := (632, yX7_book, 3, (some .int), 7, [])
abbrev md_X7_book : qMd := qmo mk_X7_book
def mk_X7_looked : qMk := (636, yX7_looked, 1, (some .int), 7, [])
abbrev md_X7_looked : qMd := qmo mk_X7_looked
def mk_X7_judge : qMk := (640, yX7_judge, 6, (some .int), 7, [])
abbrev md_X7_judge : qMd := qmo mk_X7_judge
def mk_X7_image : qMk := (656, yX7_image, 1, (some .int), 7, [])
abbrev md_X7_image : qMd := qmo mk_X7_image
def mk_X7_undo : qMk := (673, yX7_undo, 1, (some .int), 7, [])
abbrev md_X7_undo : qMd := qmo mk_X7_undo
def mk_X7_count : qMk := (677, yX7_count, 2, (some .int), 7, [])
abbrev md_X7_count : qMd := qmo mk_X7_count
def mk_X7_tape : qMk := (681, yX7_tape, 4, (some .int), 7, [])
abbrev md_X7_tape : qMd := qmo mk_X7_tape
def mk_X7_item : qMk := (692, yX7_item, 6, (some .int), 7, [3])
abbrev md_X7_item : qMd := qmo mk_X7_item
def mk_X7_peek : qMk := (700, yX7_peek, 3, (some .long), 7, [])
abbrev md_X7_peek : qMd := qmo mk_X7_peek
def mk_X7_shift : qMk := (704, yX7_shift, 8, (some .int), 7, [])
abbrev md_X7_shift : qMd := qmo mk_X7_shift
def mk_X7_isSide : qMk := (274, yX7_isSide, 1, (some .boolean), 7, [])
abbrev md_X7_isSide : qMd := qmo mk_X7_isSide
def mk_X7_isWorth : qMk := (285, yX7_isWorth, 1, (some .boolean), 7, [])
abbrev md_X7_isWorth : qMd := qmo mk_X7_isWorth
def mk_X7_isOneOfTwo : qMk := (533, yX7_isOneOfTwo, 1, (some .boolean), 7, [])
abbrev md_X7_isOneOfTwo : qMd := qmo mk_X7_isOneOfTwo
def mk_X7_isTape : qMk := (643, yX7_isTape, 1, (some .boolean), 7, [])
abbrev md_X7_isTape : qMd := qmo mk_X7_isTape
def mk_X7_waysOnly : qMk := (372, yX7_waysOnly, 1, (some .int), 7, [])
abbrev md_X7_waysOnly : qMd := qmo mk_X7_waysOnly
def mk_X7_squares : qMk := (346, yX7_squares, 6, (some .long), 7, [4])
abbrev md_X7_squares : qMd := qmo mk_X7_squares
def mk_X7_lowest : qMk := (567, yX7_lowest, 12, (some .long), 7, [0, 2, 5, 7, 9, 10])
abbrev md_X7_lowest : qMd := qmo mk_X7_lowest
def mk_X7_isSum : qMk := (555, yX7_isSum, 6, (some .boolean), 7, [])
abbrev md_X7_isSum : qMd := qmo mk_X7_isSum
def mk_X7_freshCuts : qMk := (317, yX7_freshCuts, 1, (some (.object "PlateCuts$Cuts")), 7, [])
abbrev md_X7_freshCuts : qMd := qmo mk_X7_freshCuts
def mk_X7_rewrite : qMk := (301, yX7_rewrite, 5, (some .int), 7, [])
abbrev md_X7_rewrite : qMd := qmo mk_X7_rewrite
def mk_X7_tryWorth : qMk := (587, yX7_tryWorth, 3, none, 7, [])
abbrev md_X7_tryWorth : qMd := qmo mk_X7_tryWorth
def mk_X7_tellUse : qMk := (575, yX7_tellUse, 4, (some .int), 7, [])
abbrev md_X7_tellUse : qMd := qmo mk_X7_tellUse
def mk_X7_isEvent : qMk := (617, yX7_isEvent, 3, (some .boolean), 7, [])
abbrev md_X7_isEvent : qMd := qmo mk_X7_isEvent
def mk_X7_doClauses : qMk := (464, yX7_doClauses, 4, (some .int), 7, [])
abbrev md_X7_doClauses : qMd := qmo mk_X7_doClauses
def mk_X7_doClause : qMk := (468, yX7_doClause, 4, (some .int), 7, [])
abbrev md_X7_doClause : qMd := qmo mk_X7_doClause
def mk_X8_in : qMk := (773, yX8_in, 3, (some .boolean), 8, [])
abbrev md_X8_in : qMd := qmo mk_X8_in
def mk_X8_isPart : qMk := (793, yX8_isPart, 2, (some .boolean), 8, [])
abbrev md_X8_isPart : qMd := qmo mk_X8_isPart
def mk_X8_think : qMk := (1081, yX8_think, 1, none, 8, [])
abbrev md_X8_think : qMd := qmo mk_X8_think
def mk_X8_forget : qMk := (1090, yX8_forget, 1, none, 8, [])
abbrev md_X8_forget : qMd := qmo mk_X8_forget
def mk_X8_plate : qMk := (770, yX8_plate, 3, (some .int), 8, [])
abbrev md_X8_plate : qMd := qmo mk_X8_plate
def mk_X8_kerf : qMk := (781, yX8_kerf, 3, (some .int), 8, [])
abbrev md_X8_kerf : qMd := qmo mk_X8_kerf
def mk_X8_part : qMk := (785, yX8_part, 6, (some .int), 8, [])
abbrev md_X8_part : qMd := qmo mk_X8_part
def mk_X8_renew : qMk := (789, yX8_renew, 6, (some .int), 8, [])
abbrev md_X8_renew : qMd := qmo mk_X8_renew
def mk_X8_turn : qMk := (797, yX8_turn, 4, (some .int), 8, [])
abbrev md_X8_turn : qMd := qmo mk_X8_turn
def mk_X8_of : qMk := (801, yX8_of, 3, (some .int), 8, [])
abbrev md_X8_of : qMd := qmo mk_X8_of
def mk_X8_isSquare : qMk := (849, yX8_isSquare, 3, (some .boolean), 8, [])
abbrev md_X8_isSquare : qMd := qmo mk_X8_isSquare
def mk_X8_defects : qMk := (853, yX8_defects, 3, (some .int), 8, [])
abbrev md_X8_defects : qMd := qmo mk_X8_defects
def mk_X8_clearDefects : qMk := (777, yX8_clearDefects, 2, none, 8, [])
abbrev md_X8_clearDefects : qMd := qmo mk_X8_clearDefects
def mk_X8_defect : qMk := (845, yX8_defect, 3, (some .int), 8, [])
abbrev md_X8_defect : qMd := qmo mk_X8_defect
def mk_X8_mend : qMk := (857, yX8_mend, 2, (some .int), 8, [])
abbrev md_X8_mend : qMd := qmo mk_X8_mend
def mk_X8_feed : qMk := (861, yX8_feed, 2, (some .int), 8, [])
abbrev md_X8_feed : qMd := qmo mk_X8_feed
def mk_X8_isDigit : qMk := (961, yX8_isDigit, 2, (some .boolean), 8, [])
abbrev md_X8_isDigit : qMd := qmo mk_X8_isDigit
def mk_X8_digit : qMk := (970, yX8_digit, 2, (some .int), 8, [])
abbrev md_X8_digit : qMd := qmo mk_X8_digit
def mk_X8_isOne : qMk := (874, yX8_isOne, 3, (some .boolean), 8, [])
abbrev md_X8_isOne : qMd := qmo mk_X8_isOne
def mk_X8_faultOf : qMk := (869, yX8_faultOf, 5, (some .int), 8, [])
abbrev md_X8_faultOf : qMd := qmo mk_X8_faultOf
def mk_X8_does : qMk := (966, yX8_does, 3, (some .int), 8, [])
abbrev md_X8_does : qMd := qmo mk_X8_does
def mk_X8_read : qMk := (865, yX8_read, 4, (some .int), 8, [])
abbrev md_X8_read : qMd := qmo mk_X8_read
def mk_X8_at : qMk := (829, yX8_at, 4, (some .int), 8, [])
abbrev md_X8_at : qMd := qmo mk_X8_at
def mk_X8_isPiece : qMk := (982, yX8_isPiece, 5, (some .boolean), 8, [])
abbrev md_X8_isPiece : qMd := qmo mk_X8_isPiece
def mk_X8_isClear : qMk := (817, yX8_isClear, 7, (some .boolean), 8, [])
abbrev md_X8_isClear : qMd := qmo mk_X8_isClear
def mk_X8_fitsIn : qMk := (821, yX8_fitsIn, 4, (some .boolean), 8, [])
abbrev md_X8_fitsIn : qMd := qmo mk_X8_fitsIn
def mk_X8_plain : qMk := (813, yX8_plain, 7, (some .int), 8, [])
abbrev md_X8_plain : qMd := qmo mk_X8_plain
def mk_X8_cutBy : qMk := (826, yX8_cutBy, 8, (some .int), 8, [])
abbrev md_X8_cutBy : qMd := qmo mk_X8_cutBy
def mk_X8_measure : qMk := (809, yX8_measure, 7, none, 8, [])
abbrev md_X8_measure : qMd := qmo mk_X8_measure
def mk_X8_bestOfAll : qMk := (1035, yX8_bestOfAll, 1, (some .int), 8, [])
abbrev md_X8_bestOfAll : qMd := qmo mk_X8_bestOfAll
def mk_X8_best : qMk := (978, yX8_best, 5, (some .int), 8, [])
abbrev md_X8_best : qMd := qmo mk_X8_best
def mk_X8_is : qMk := (986, yX8_is, 6, (some .int), 8, [])
abbrev md_X8_is : qMd := qmo mk_X8_is
def mk_X8_cuts : qMk := (805, yX8_cuts, 1, none, 8, [])
abbrev md_X8_cuts : qMd := qmo mk_X8_cuts
def mk_X8_partWorth : qMk := (837, yX8_partWorth, 7, (some .int), 8, [])
abbrev md_X8_partWorth : qMd := qmo mk_X8_partWorth
def mk_X8_grow : qMk := (833, yX8_grow, 13, none, 8, [])
abbrev md_X8_grow : qMd := qmo mk_X8_grow
def mk_X8_usedOf : qMk := (841, yX8_usedOf, 4, (some .int), 8, [])
abbrev md_X8_usedOf : qMd := qmo mk_X8_usedOf
def mk_X8_parts : qMk := (994, yX8_parts, 3, (some .int), 8, [])
abbrev md_X8_parts : qMd := qmo mk_X8_parts
def mk_X8_cutOnes : qMk := (998, yX8_cutOnes, 3, (some .int), 8, [])
abbrev md_X8_cutOnes : qMd := qmo mk_X8_cutOnes
def mk_X8_wasted : qMk := (1002, yX8_wasted, 3, (some .int), 8, [])
abbrev md_X8_wasted : qMd := qmo mk_X8_wasted
def mk_X8_deep : qMk := (1006, yX8_deep, 5, (some .int), 8, [])
abbrev md_X8_deep : qMd := qmo mk_X8_deep
def mk_X8_told : qMk := (990, yX8_told, 2, (some .int), 8, [])
abbrev md_X8_told : qMd := qmo mk_X8_told
def mk_X8_node : qMk := (1010, yX8_node, 3, (some .int), 8, [])
abbrev md_X8_node : qMd := qmo mk_X8_node
def mk_X8_picture : qMk := (1014, yX8_picture, 5, (some .int), 8, [])
abbrev md_X8_picture : qMd := qmo mk_X8_picture
def mk_X8_stage : qMk := (1022, yX8_stage, 8, none, 8, [])
abbrev md_X8_stage : qMd := qmo mk_X8_stage
def mk_X8_staged : qMk := (1018, yX8_staged, 7, (some .int), 8, [])
abbrev md_X8_staged : qMd := qmo mk_X8_staged
def mk_X8_sizes : qMk := (1026, yX8_sizes, 8, (some .int), 8, [])
abbrev md_X8_sizes : qMd := qmo mk_X8_sizes
def mk_X8_more : qMk := (1030, yX8_more, 4, (some .long), 8, [])
abbrev md_X8_more : qMd := qmo mk_X8_more
def mk_X8_common : qMk := (1045, yX8_common, 2, (some .int), 8, [])
abbrev md_X8_common : qMd := qmo mk_X8_common
def mk_X8_lowest : qMk := (1042, yX8_lowest, 3, (some .long), 8, [])
abbrev md_X8_lowest : qMd := qmo mk_X8_lowest
def mk_X8_bound : qMk := (1039, yX8_bound, 4, (some .long), 8, [])
abbrev md_X8_bound : qMd := qmo mk_X8_bound
def mk_X8_comes : qMk := (1053, yX8_comes, 5, (some .int), 8, [])
abbrev md_X8_comes : qMd := qmo mk_X8_comes
def mk_X8_see : qMk := (1049, yX8_see, 3, (some .int), 8, [])
abbrev md_X8_see : qMd := qmo mk_X8_see
def mk_X8_isSeen : qMk := (1061, yX8_isSeen, 2, (some .boolean), 8, [])
abbrev md_X8_isSeen : qMd := qmo mk_X8_isSeen
def mk_X8_fits : qMk := (1057, yX8_fits, 7, (some .int), 8, [])
abbrev md_X8_fits : qMd := qmo mk_X8_fits
def mk_X8_odds : qMk := (1065, yX8_odds, 6, (some .long), 8, [])
abbrev md_X8_odds : qMd := qmo mk_X8_odds
def mk_X8_mean : qMk := (1069, yX8_mean, 2, (some .long), 8, [])
abbrev md_X8_mean : qMd := qmo mk_X8_mean
def mk_X8_event : qMk := (1073, yX8_event, 3, (some .int), 8, [])
abbrev md_X8_event : qMd := qmo mk_X8_event
def mk_X8_happens : qMk := (1086, yX8_happens, 3, none, 8, [])
abbrev md_X8_happens : qMd := qmo mk_X8_happens
def mk_X8_after : qMk := (1077, yX8_after, 3, (some .int), 8, [])
abbrev md_X8_after : qMd := qmo mk_X8_after
def mk_X8_book : qMk := (1094, yX8_book, 3, (some .int), 8, [])
abbrev md_X8_book : qMd := qmo mk_X8_book
def mk_X8_looked : qMk := (1098, yX8_looked, 2, (some .int), 8, [])
abbrev md_X8_looked : qMd := qmo mk_X8_looked
def mk_X8_isTape : qMk := (1105, yX8_isTape, 1, (some .boolean), 8, [])
abbrev md_X8_isTape : qMd := qmo mk_X8_isTape
def mk_X8_judge : qMk := (1102, yX8_judge, 5, (some .int), 8, [])
abbrev md_X8_judge : qMd := qmo mk_X8_judge
def mk_X8_image : qMk := (1109, yX8_image, 1, (some .int), 8, [])
abbrev md_X8_image : qMd := qmo mk_X8_image
def mk_X8_undo : qMk := (1113, yX8_undo, 1, (some .int), 8, [])
abbrev md_X8_undo : qMd := qmo mk_X8_undo
def mk_X8_count : qMk := (1117, yX8_count, 2, (some .int), 8, [])
abbrev md_X8_count : qMd := qmo mk_X8_count
def mk_X8_tape : qMk := (1121, yX8_tape, 5, (some .int), 8, [])
abbrev md_X8_tape : qMd := qmo mk_X8_tape
def mk_X8_lowestBits : qMk := (1128, yX8_lowestBits, 3, (some .long), 8, [1])
abbrev md_X8_lowestBits : qMd := qmo mk_X8_lowestBits
def mk_X8_item : qMk := (1125, yX8_item, 5, (some .int), 8, [3])
abbrev md_X8_item : qMd := qmo mk_X8_item
def mk_X8_peek : qMk := (1132, yX8_peek, 3, (some .long), 8, [])
abbrev md_X8_peek : qMd := qmo mk_X8_peek
def mk_X8_shift : qMk := (1136, yX8_shift, 6, (some .int), 8, [])
abbrev md_X8_shift : qMd := qmo mk_X8_shift
def mk_J13_bitCount_95d88 : qMk := (426, yJ13_bitCount_95d88, 2, (some .int), 10, [0])
abbrev md_J13_bitCount_95d88 : qMd := qmo mk_J13_bitCount_95d88
def mk_J0_length_8abf5 : qMk := (892, yJ0_length_8abf5, 1, (some .int), 11, [])
abbrev md_J0_length_8abf5 : qMd := qmo mk_J0_length_8abf5
def mk_J0_indexOf_0f7a4 : qMk := (878, yJ0_indexOf_0f7a4, 2, (some .int), 11, [])
abbrev md_J0_indexOf_0f7a4 : qMd := qmo mk_J0_indexOf_0f7a4
def mk_J0_indexOf_7cf53 : qMk := (882, yJ0_indexOf_7cf53, 3, (some .int), 11, [])
abbrev md_J0_indexOf_7cf53 : qMd := qmo mk_J0_indexOf_7cf53
def mk_J0_coder_7d493 : qMk := (896, yJ0_coder_7d493, 1, (some .byte), 11, [])
abbrev md_J0_coder_7d493 : qMd := qmo mk_J0_coder_7d493
def mk_J0_isLatin1_aae02 : qMk := (886, yJ0_isLatin1_aae02, 1, (some .boolean), 11, [])
abbrev md_J0_isLatin1_aae02 : qMd := qmo mk_J0_isLatin1_aae02
def mk_J1_canEncode_9a6ad : qMk := (902, yJ1_canEncode_9a6ad, 1, (some .boolean), 12, [])
abbrev md_J1_canEncode_9a6ad : qMd := qmo mk_J1_canEncode_9a6ad
def mk_J1_indexOf_4cfef : qMk := (899, yJ1_indexOf_4cfef, 4, (some .int), 12, [])
abbrev md_J1_indexOf_4cfef : qMd := qmo mk_J1_indexOf_4cfef
def mk_J1_indexOfChar_4cfef : qMk := (907, yJ1_indexOfChar_4cfef, 6, (some .int), 12, [])
abbrev md_J1_indexOfChar_4cfef : qMd := qmo mk_J1_indexOfChar_4cfef
def mk_J7_fill_d0a16 : qMk := (688, yJ7_fill_d0a16, 5, none, 13, [1])
abbrev md_J7_fill_d0a16 : qMd := qmo mk_J7_fill_d0a16
def mk_J7_fill_53178 : qMk := (380, yJ7_fill_53178, 4, none, 13, [])
abbrev md_J7_fill_53178 : qMd := qmo mk_J7_fill_53178
def md_L_law : qMd := (x, code, 4, (some .boolean), 9, [])
def qMK : List qMk := [mk_X0_reckon, mk_X0_grow, mk_X0_settle, mk_X0_name, mk_X0_write, mk_X0_fact, mk_X0_timesUsed, mk_X0_wasted, mk_X0_partOn, mk_X0_telling, mk_X0_firstOtherwise, mk_X1_append, mk_X1_first, mk_X1_second, mk_X1_copyFrom, mk_X2_copyFrom, mk_X2_has, mk_X2_fact, mk_X2_write, mk_X2_hasSquare, mk_X2_hasPiece, mk_X2_isSound, mk_X2_isOfSize, mk_X2_leastPart, mk_X2_greatestWorth, mk_X2_lengths, mk_X2_befall, mk_X3_copyFrom, mk_X4_become, mk_X4_hasPlace, mk_X4_hasRange, mk_X4_asItem, mk_X5_append, mk_X5_sign, mk_X5_isDigit, mk_X5_digit, mk_X5_worth, mk_X5_digitsDue, mk_X5_firstFault, mk_X5_clauseBehind, mk_X6_at, mk_X6_put, mk_X6_ofPlate, mk_X6_layParts, mk_X6_layPartsOfSize, mk_X6_cutAll, mk_X6_cutAllOfSize, mk_X6_cutOrNot, mk_X6_together, mk_X6_leastCut, mk_X7_plate, mk_X7_kerf, mk_X7_part, mk_X7_renew, mk_X7_turn, mk_X7_of, mk_X7_defect, mk_X7_mend, mk_X7_feed, mk_X7_read, mk_X7_best, mk_X7_is, mk_X7_told, mk_X7_node, mk_X7_picture, mk_X7_staged, mk_X7_sizes, mk_X7_more, mk_X7_bound, mk_X7_see, mk_X7_fits, mk_X7_odds, mk_X7_mean, mk_X7_event, mk_X7_after, mk_X7_book, mk_X7_looked, mk_X7_judge, mk_X7_image, mk_X7_undo, mk_X7_count, mk_X7_tape, mk_X7_item, mk_X7_peek, mk_X7_shift, mk_X7_isSide, mk_X7_isWorth, mk_X7_isOneOfTwo, mk_X7_isTape, mk_X7_waysOnly, mk_X7_squares, mk_X7_lowest, mk_X7_isSum, mk_X7_freshCuts, mk_X7_rewrite, mk_X7_tryWorth, mk_X7_tellUse, mk_X7_isEvent, mk_X7_doClauses, mk_X7_doClause, mk_X8_in, mk_X8_isPart, mk_X8_think, mk_X8_forget, mk_X8_plate, mk_X8_kerf, mk_X8_part, mk_X8_renew, mk_X8_turn, mk_X8_of, mk_X8_isSquare, mk_X8_defects, mk_X8_clearDefects, mk_X8_defect, mk_X8_mend, mk_X8_feed, mk_X8_isDigit, mk_X8_digit, mk_X8_isOne, mk_X8_faultOf, mk_X8_does, mk_X8_read, mk_X8_at, mk_X8_isPiece, mk_X8_isClear, mk_X8_fitsIn, mk_X8_plain, mk_X8_cutBy, mk_X8_measure, mk_X8_bestOfAll, mk_X8_best, mk_X8_is, mk_X8_cuts, mk_X8_partWorth, mk_X8_grow, mk_X8_usedOf, mk_X8_parts, mk_X8_cutOnes, mk_X8_wasted, mk_X8_deep, mk_X8_told, mk_X8_node, mk_X8_picture, mk_X8_stage, mk_X8_staged, mk_X8_sizes, mk_X8_more, mk_X8_common, mk_X8_lowest, mk_X8_bound, mk_X8_comes, mk_X8_see, mk_X8_isSeen, mk_X8_fits, mk_X8_odds, mk_X8_mean, mk_X8_event, mk_X8_happens, mk_X8_after, mk_X8_book, mk_X8_looked, mk_X8_isTape, mk_X8_judge, mk_X8_image, mk_X8_undo, mk_X8_count, mk_X8_tape, mk_X8_lowestBits, mk_X8_item, mk_X8_peek, mk_X8_shift, mk_J13_bitCount_95d88, mk_J0_length_8abf5, mk_J0_indexOf_0f7a4, mk_J0_indexOf_7cf53, mk_J0_coder_7d493, mk_J0_isLatin1_aae02, mk_J1_canEncode_9a6ad, mk_J1_indexOf_4cfef, mk_J1_indexOfChar_4cfef, mk_J7_fill_d0a16, mk_J7_fill_53178]
def qMD : List qMd := qMK.map qmo
def qmd (mi : Nat) : qMd := qnth qMD mi md_L_law
def qcdw (q : qMd) : Cond := .code q.1 q.2.1 q.2.2.1 q.2.2.2.1
set_option maxRecDepth 100000 in
theorem qMK_w : ∀ e ∈ qMK, qkey lw_tbl[e.1]? = some (e.2.1, e.2.2.1, e.2.2.2.1) := by decide +kernel
theorem qcd_all : ∀ q ∈ qMD, qcdw q ∈ TBL := by
  intro q hq
  obtain ⟨e, he, rfl⟩ := List.mem_map.mp hq
  exact qkey_o (qMK_w e he)
set_option maxRecDepth 100000 in
theorem qMK_s : ∀ q ∈ qMK, plainName q.2.1.cls = true ∧ q.2.2.1 ≤ 20 ∧ q.2.1.cls ≠ "java/lang/invoke/MethodHandle" ∧ q.2.1.cls ≠ "java/lang/invoke/VarHandle" ∧ q.2.1.cls = qon q.2.2.2.2.1 := by decide +kernel
theorem qMD_s : ∀ q ∈ qMD, plainName q.1.cls = true ∧ q.2.2.1 ≤ 20 ∧ q.1.cls ≠ "java/lang/invoke/MethodHandle" ∧ q.1.cls ≠ "java/lang/invoke/VarHandle" ∧ q.1.cls = qon q.2.2.2.2.1 := by
  intro q hq
  obtain ⟨e, he, rfl⟩ := List.mem_map.mp hq
  exact qMK_s e he
def qVw (e : Nat × Nat × Nat × Nat × Nat) : List Cond := [.methodLink (qon e.1) e.2.1 (qmd e.2.2.1).1, .instanceMethod (qmd e.2.2.1).1, .selects (qon e.2.2.2.2) (qmd e.2.2.1).1 (qmd e.2.2.1).1, .initialized (qon e.2.2.2.2)]
def qVl_0 : List (Nat × Nat × Nat × Nat × Nat) := [(0, 31, 43, 0, 6), (0, 34, 45, 1, 6), (0, 72, 4, 3, 0), (0, 76, 40, 4, 6), (0, 80, 2, 1, 0), (0, 83, 5, 2, 0), (0, 95, 3, 3, 0), (0, 98, 23, 5, 2), (0, 102, 49, 5, 6), (0, 112, 12, 1, 1), (0, 116, 6, 1, 0), (0, 119, 13, 1, 1), (2, 42, 17, 2, 2), (2, 46, 21, 4, 2), (2, 50, 22, 3, 2), (2, 59, 18, 3, 2), (3, 33, 15, 1, 2), (3, 37, 14, 1, 1), (5, 19, 33, 1, 5), (5, 23, 34, 1, 5), (5, 27, 35, 1, 5), (6, 31, 40, 4, 6), (6, 35, 44, 2, 6), (6, 39, 24, 2, 2), (6, 43, 21, 4, 2), (6, 47, 41, 5, 6), (6, 51, 46, 3, 6), (6, 55, 47, 5, 6), (6, 63, 48, 6, 6), (7, 85, 18, 3, 2), (7, 89, 16, 1, 2), (7, 92, 94, 3, 7), (7, 96, 93, 0, 7), (7, 100, 6, 1, 0), (7, 104, 17, 2, 2), (7, 108, 19, 2, 2), (7, 120, 32, 1, 5), (7, 126, 38, 0, 5), (7, 130, 98, 0, 7), (7, 133, 20, 4, 2), (7, 141, 40, 4, 6), (7, 147, 23, 5, 2), (7, 151, 42, 0, 6), (7, 163, 7, 0, 0), (7, 169, 5, 2, 0), (7, 170, 8, 2, 0), (7, 176, 15, 1, 2), (7, 179, 43, 0, 6), (7, 185, 45, 1, 6), (7, 189, 25, 1, 2), (7, 192, 92, 3, 7), (7, 206, 96, 3, 7), (7, 210, 95, 2, 7), (7, 214, 10, 1, 0), (7, 226, 97, 2, 7), (7, 229, 11, 2, 1), (7, 231, 12, 1, 1), (7, 234, 13, 1, 1), (7, 237, 26, 2, 2), (7, 240, 0, 0, 0)]
theorem qVw_0 : ∀ w ∈ qVl_0.flatMap qVw, w ∈ TBL := tb_of [322, 323, 324, 53, 354, 355, 356, 53, 384, 386, 7, 52, 388, 367, 368, 53, 389, 391, 8, 52, 393, 394, 395, 52, 397, 399, 9, 52, 401, 402, 403, 49, 406, 407, 408, 53, 592, 593, 594, 50, 596, 412, 413, 52, 597, 598, 599, 50, 338, 303, 304, 49, 405, 341, 342, 49, 334, 335, 336, 49, 628, 287, 288, 49, 661, 535, 536, 49, 662, 663, 664, 50, 450, 451, 452, 54, 457, 458, 459, 54, 480, 470, 471, 54, 366, 367, 368, 53, 326, 328, 2, 53, 330, 331, 332, 49, 340, 341, 342, 49, 348, 350, 3, 53, 358, 360, 4, 53, 362, 364, 5, 53, 373, 375, 6, 53, 286, 287, 288, 49, 294, 295, 296, 49, 298, 300, 0, 47, 314, 316, 1, 47, 411, 412, 413, 52, 302, 303, 304, 49, 419, 420, 421, 49, 438, 439, 440, 54, 446, 447, 448, 54, 461, 463, 10, 47, 492, 493, 494, 49, 496, 367, 368, 53, 501, 402, 403, 49, 506, 507, 508, 53, 510, 511, 512, 52, 518, 394, 395, 52, 523, 524, 525, 52, 534, 535, 536, 49, 541, 323, 324, 53, 543, 355, 356, 53, 548, 549, 550, 49, 552, 554, 12, 47, 572, 574, 13, 47, 584, 586, 14, 47, 588, 589, 590, 52, 614, 616, 15, 47, 576, 577, 578, 50, 622, 593, 594, 50, 623, 598, 599, 50, 624, 625, 626, 49, 318, 319, 320, 52] (by decide +kernel) (by decide +kernel)
def qVl_1 : List (Nat × Nat × Nat × Nat × Nat) := [(7, 252, 29, 1, 4), (7, 259, 9, 1, 0), (7, 263, 27, 1, 3), (7, 269, 28, 2, 4), (7, 272, 31, 1, 4), (7, 276, 30, 2, 4), (7, 287, 99, 1, 7), (7, 290, 39, 1, 5), (7, 293, 35, 1, 5), (7, 296, 33, 1, 5), (7, 299, 50, 2, 7), (7, 302, 51, 1, 7), (7, 304, 36, 1, 5), (7, 307, 52, 4, 7), (7, 311, 56, 2, 7), (8, 61, 112, 0, 8), (8, 64, 101, 1, 8), (8, 68, 132, 0, 8), (8, 71, 135, 1, 8), (8, 75, 110, 2, 8), (8, 79, 111, 0, 8), (8, 87, 173, 1, 11), (8, 94, 118, 2, 8), (8, 100, 116, 1, 8), (8, 108, 117, 1, 8), (8, 111, 104, 2, 8), (8, 115, 105, 1, 8), (8, 118, 113, 2, 8), (8, 121, 106, 4, 8), (8, 125, 119, 0, 8), (8, 128, 120, 1, 8), (8, 131, 124, 4, 8), (8, 135, 125, 3, 8), (8, 147, 126, 4, 8), (8, 150, 127, 7, 8), (8, 154, 128, 0, 8), (8, 157, 123, 4, 8), (8, 163, 134, 5, 8), (8, 167, 133, 5, 8), (8, 171, 136, 0, 8), (8, 174, 137, 0, 8), (8, 177, 138, 0, 8), (8, 180, 139, 0, 8), (8, 183, 143, 1, 8), (8, 189, 129, 0, 8), (8, 199, 150, 4, 8), (8, 202, 152, 0, 8), (8, 206, 102, 0, 8), (8, 209, 157, 2, 8), (8, 213, 103, 0, 8), (11, 335, 175, 0, 11), (11, 633, 174, 2, 11), (11, 492, 176, 0, 11), (11, 505, 172, 0, 11), (9, 13, 50, 2, 7), (9, 17, 104, 2, 8), (9, 18, 51, 1, 7), (9, 22, 105, 1, 8), (9, 23, 52, 4, 7), (9, 27, 106, 4, 8)]
theorem qVw_1 : ∀ w ∈ qVl_1.flatMap qVw, w ∈ TBL := tb_of [644, 645, 646, 55, 648, 649, 650, 52, 657, 658, 659, 48, 682, 683, 684, 55, 693, 694, 695, 55, 705, 706, 707, 55, 465, 467, 11, 47, 483, 484, 485, 54, 469, 470, 471, 54, 473, 451, 452, 54, 474, 269, 270, 47, 475, 276, 277, 47, 476, 477, 478, 54, 481, 280, 281, 47, 482, 416, 417, 47, 774, 776, 16, 56, 790, 792, 17, 56, 802, 804, 18, 56, 838, 840, 26, 56, 846, 848, 27, 56, 850, 852, 28, 56, 875, 876, 877, 59, 871, 873, 30, 56, 958, 960, 31, 56, 967, 969, 33, 56, 971, 768, 769, 56, 972, 779, 780, 56, 973, 843, 844, 56, 974, 783, 784, 56, 866, 868, 29, 56, 963, 965, 32, 56, 814, 816, 21, 56, 818, 820, 22, 56, 810, 812, 20, 56, 823, 825, 23, 56, 806, 808, 19, 56, 979, 981, 34, 56, 830, 832, 24, 56, 834, 836, 25, 56, 991, 993, 35, 56, 995, 997, 36, 56, 999, 1001, 37, 56, 1003, 1005, 38, 56, 1019, 1021, 39, 56, 1032, 1034, 40, 56, 1050, 1052, 41, 56, 1058, 1060, 42, 56, 1078, 1080, 43, 56, 1083, 1085, 44, 56, 1087, 1089, 45, 56, 893, 894, 895, 59, 879, 880, 881, 59, 883, 884, 885, 59, 889, 890, 891, 59, 268, 269, 270, 47, 767, 768, 769, 56, 275, 276, 277, 47, 778, 779, 780, 56, 279, 280, 281, 47, 782, 783, 784, 56] (by decide +kernel) (by decide +kernel)
def qVl_2 : List (Nat × Nat × Nat × Nat × Nat) := [(9, 28, 53, 3, 7), (9, 32, 107, 3, 8), (9, 33, 54, 2, 7), (9, 37, 108, 2, 8), (9, 38, 55, 2, 7), (9, 41, 109, 2, 8), (9, 42, 56, 2, 7), (9, 45, 113, 2, 8), (9, 46, 57, 0, 7), (9, 50, 114, 0, 8), (9, 51, 58, 1, 7), (9, 54, 115, 1, 8), (9, 55, 59, 0, 7), (9, 58, 121, 0, 8), (9, 59, 60, 4, 7), (9, 63, 130, 4, 8), (9, 64, 61, 4, 7), (9, 67, 131, 4, 8), (9, 68, 62, 1, 7), (9, 71, 140, 1, 8), (9, 72, 63, 2, 7), (9, 75, 141, 2, 8), (9, 76, 64, 2, 7), (9, 79, 142, 2, 8), (9, 80, 65, 2, 7), (9, 83, 144, 2, 8), (9, 84, 66, 1, 7), (9, 87, 145, 1, 8), (9, 88, 67, 1, 7), (9, 92, 146, 1, 8), (9, 93, 68, 1, 7), (9, 96, 149, 1, 8), (9, 97, 69, 2, 7), (9, 100, 151, 2, 8), (9, 101, 70, 2, 7), (9, 104, 153, 2, 8), (9, 105, 71, 2, 7), (9, 109, 154, 2, 8), (9, 110, 72, 1, 7), (9, 113, 155, 1, 8), (9, 114, 73, 2, 7), (9, 117, 156, 2, 8), (9, 118, 74, 1, 7), (9, 121, 158, 1, 8), (9, 122, 75, 2, 7), (9, 125, 159, 2, 8), (9, 126, 76, 0, 7), (9, 129, 160, 0, 8), (9, 130, 77, 2, 7), (9, 133, 162, 2, 8), (9, 134, 78, 0, 7), (9, 137, 163, 0, 8), (9, 138, 79, 0, 7), (9, 141, 164, 0, 8), (9, 142, 80, 1, 7), (9, 145, 165, 1, 8), (9, 146, 81, 3, 7), (9, 149, 166, 3, 8), (9, 152, 82, 3, 7), (9, 156, 168, 3, 8)]
theorem qVw_2 : ∀ w ∈ qVl_2.flatMap qVw, w ∈ TBL := tb_of [290, 291, 292, 47, 786, 787, 788, 56, 306, 307, 308, 47, 794, 795, 796, 56, 310, 311, 312, 47, 798, 799, 800, 56, 415, 416, 417, 47, 842, 843, 844, 56, 430, 431, 432, 47, 854, 855, 856, 56, 434, 435, 436, 47, 858, 859, 860, 56, 442, 443, 444, 47, 862, 863, 864, 56, 488, 489, 490, 47, 975, 976, 977, 56, 497, 498, 499, 47, 983, 984, 985, 56, 502, 503, 504, 47, 987, 988, 989, 56, 514, 515, 516, 47, 1007, 1008, 1009, 56, 519, 520, 521, 47, 1011, 1012, 1013, 56, 527, 528, 529, 47, 1015, 1016, 1017, 56, 544, 545, 546, 47, 1023, 1024, 1025, 56, 556, 557, 558, 47, 1027, 1028, 1029, 56, 561, 562, 563, 47, 1036, 1037, 1038, 56, 568, 569, 570, 47, 1046, 1047, 1048, 56, 580, 581, 582, 47, 1054, 1055, 1056, 56, 601, 602, 603, 47, 1062, 1063, 1064, 56, 606, 607, 608, 47, 1066, 1067, 1068, 56, 610, 611, 612, 47, 1070, 1071, 1072, 56, 618, 619, 620, 47, 1074, 1075, 1076, 56, 629, 630, 631, 47, 1091, 1092, 1093, 56, 633, 634, 635, 47, 1095, 1096, 1097, 56, 637, 638, 639, 47, 1099, 1100, 1101, 56, 653, 654, 655, 47, 1106, 1107, 1108, 56, 670, 671, 672, 47, 1110, 1111, 1112, 56, 674, 675, 676, 47, 1114, 1115, 1116, 56, 678, 679, 680, 47, 1118, 1119, 1120, 56, 689, 690, 691, 47, 1122, 1123, 1124, 56] (by decide +kernel) (by decide +kernel)
def qVl_3 : List (Nat × Nat × Nat × Nat × Nat) := [(9, 157, 83, 2, 7), (9, 160, 169, 2, 8), (9, 161, 84, 5, 7), (9, 165, 170, 5, 8)]
theorem qVw_3 : ∀ w ∈ qVl_3.flatMap qVw, w ∈ TBL := tb_of [697, 698, 699, 47, 1129, 1130, 1131, 56, 701, 702, 703, 47, 1133, 1134, 1135, 56] (by decide +kernel) (by decide +kernel)
def qVl : List (Nat × Nat × Nat × Nat × Nat) := qVl_0 ++ (qVl_1 ++ (qVl_2 ++ (qVl_3)))
theorem qVl_w : ∀ e ∈ qVl, ∀ w ∈ qVw e, w ∈ TBL := by
  intro e he w hw
  unfold qVl at he
  simp only [List.mem_append] at he
  rcases he with h | h | h | h
  · exact qVw_0 _ (List.mem_flatMap.mpr ⟨e, h, hw⟩)
  · exact qVw_1 _ (List.mem_flatMap.mpr ⟨e, h, hw⟩)
  · exact qVw_2 _ (List.mem_flatMap.mpr ⟨e, h, hw⟩)
  · exact qVw_3 _ (List.mem_flatMap.mpr ⟨e, h, hw⟩)
set_option maxRecDepth 100000 in
theorem qVl_s : ∀ e ∈ qVl, e.2.2.1 < qMD.length ∧ (qmd e.2.2.1).1.cls = qon e.2.2.2.2 ∧ (parseMethodDescriptor (qmd e.2.2.1).1.desc).map (fun d => d.parameters.length) = some e.2.2.2.1 ∧ (e.2.2.2.2 < 9 ∨ e.2.2.2.2 = 11) := by decide +kernel
def qSl : List (Nat × Nat × Nat × Nat) := [(0, 38, 181, 2), (0, 68, 1, 7), (4, 22, 180, 2), (5, 30, 37, 1), (7, 57, 85, 1), (7, 79, 86, 1), (7, 112, 90, 4), (7, 116, 171, 1), (7, 173, 87, 1), (7, 182, 89, 1), (7, 198, 91, 3), (7, 246, 88, 1), (8, 51, 100, 3), (8, 143, 122, 4), (8, 192, 147, 2), (8, 195, 148, 3), (8, 216, 161, 1), (8, 223, 167, 2), (11, 637, 178, 4), (12, 88, 177, 1), (12, 95, 179, 4)]
def qSw (e : Nat × Nat × Nat × Nat) : List Cond := [.methodLink (qon e.1) e.2.1 (qmd e.2.2.1).1, .static (qmd e.2.2.1).1, .initialized (qmd e.2.2.1).1.cls]
theorem qSl_w : ∀ w ∈ qSl.flatMap qSw, w ∈ TBL := tb_of [378, 379, 57, 381, 382, 52, 686, 687, 57, 454, 455, 54, 272, 273, 47, 283, 284, 47, 423, 345, 47, 424, 425, 58, 531, 532, 47, 542, 371, 47, 565, 566, 47, 641, 642, 47, 771, 772, 56, 827, 828, 56, 1043, 1044, 56, 1040, 1041, 56, 1103, 1104, 56, 1126, 1127, 56, 897, 898, 60, 900, 901, 60, 905, 906, 60] (by decide +kernel) (by decide +kernel)
theorem qSl_s : ∀ e ∈ qSl, e.2.2.1 < qMD.length ∧ (parseMethodDescriptor (qmd e.2.2.1).1.desc).map (fun d => d.parameters.length) = some e.2.2.2 := by decide +kernel
def qNl : List (Nat × Nat × Nat × Nat) := [(2, 38, 90, 4), (6, 59, 89, 1)]
def qNw (e : Nat × Nat × Nat × Nat) : List Cond := [.static (qmd e.2.2.1).1, .initialized (qmd e.2.2.1).1.cls]
theorem qNl_w : ∀ w ∈ qNl.flatMap qNw, w ∈ TBL := tb_of [345, 47, 371, 47] (by decide +kernel) (by decide +kernel)
theorem qNl_s : ∀ e ∈ qNl, e.2.2.1 < qMD.length ∧ (parseMethodDescriptor (qmd e.2.2.1).1.desc).map (fun d => d.parameters.length) = some e.2.2.2 := by decide +kernel
def qNk (e : Nat × Nat × Nat × Nat) : Cond := .methodLinkNest (qon e.1) e.2.1 (qmd e.2.2.1).1 "PlateCuts"
theorem qNl_k : qNl.map qNk = [344, 370].filterMap (fun i => lw_tbl[i]?) := by decide +kernel
def qCl : List (Nat × Nat × Nat) := [(0, 105, 100), (7, 196, 9223372036854775808), (7, 218, 10), (7, 285, 127), (8, 187, 9223372036854775808), (10, 314, 6148914691236517205), (10, 316, 3689348814741910323), (10, 318, 1085102592571150095), (9, 150, 4294967295)]
theorem qCl_w : ∀ w ∈ qCl.map (fun e => Cond.constantLong (qon e.1) e.2.1 (Int64.ofNat e.2.2)), w ∈ TBL := tb_of [652, 560, 605, 347, 1031, 427, 428, 429, 1137] (by decide +kernel) (by decide +kernel)
def qMl : List (Nat × Nat × Nat) := [(0, 87, 1), (1, 25, 2), (2, 54, 1), (5, 33, 1), (6, 67, 1), (8, 138, 1), (12, 92, 1), (12, 38, 2)]
def qmn (k : Nat) : MethodName := if k = 1 then Lib.Math.max.name else Lib.Math.min.name
def qmc (k : Nat) : ByteArray := if k = 1 then Lib.Math.max.code else Lib.Math.min.code
def qMw (e : Nat × Nat × Nat) : List Cond := [.methodLink (qon e.1) e.2.1 (qmn e.2.2), .static (qmn e.2.2), .initialized "java/lang/Math", .code (qmn e.2.2) (qmc e.2.2) 2 (some .int)]
theorem qMl_w : ∀ w ∈ qMl.flatMap qMw, w ∈ TBL := tb_of [410, 123, 51, 124, 666, 667, 51, 668, 339, 123, 51, 124, 487, 123, 51, 124, 377, 123, 51, 124, 822, 123, 51, 124, 903, 123, 51, 124, 904, 667, 51, 668] (by decide +kernel) (by decide +kernel)
def qAl : List (Nat × Nat) := [(1, 28), (2, 32), (7, 279), (8, 55)]
def qAw (e : Nat × Nat) : List Cond := [.methodLink (qon e.1) e.2 arraycopyName, .native arraycopyName, .static arraycopyName, .initialized "java/lang/System"]
theorem qAl_w : ∀ w ∈ qAl.flatMap qAw, w ∈ TBL := tb_of [669, 540, 539, 64, 538, 540, 539, 64, 709, 540, 539, 64, 1082, 540, 539, 64] (by decide +kernel) (by decide +kernel)
-- Zl [(6, 19, 1000), (11, 38, 1)] Sr [(8, 92, 1002), (8, 98, 1003), (8, 106, 1004)] JF [(11, 9, 11, 0), (11, 15, 11, 1)]
theorem qZ_w : ∀ w ∈ ([.fieldLink RX6 19 RX6 "FIRST_SPAN" "[I", .fieldLink RJ0 38 RJ0 "COMPACT_STRINGS" "Z", .fieldLink RJ0 9 RJ0 "value" "[B", .fieldLink RJ0 15 RJ0 "coder" "B"] : List Cond), w ∈ TBL := tb_of [352, 887, 1139, 1138] (by decide +kernel) (by decide +kernel)
