set_option maxRecDepth 10000 in
theorem t_X0_reckon : qnth qTab 0 [] = kk_X0_reckon := rfl
theorem u_X0_reckon_0 {d : Nat} {ls : qL} {st : List qV} {h : qH} {R : qR} : Wp d 0 0 ls st h R ↔ qB (qdn Wp d) (fun lb ls st h => Wp d 0 lb ls st h R) R k_X0_reckon_0 ls st h := Wp_u t_X0_reckon rfl
set_option maxRecDepth 10000 in
theorem t_X0_grow : qnth qTab 1 [] = kk_X0_grow := rfl
theorem u_X0_grow_0 {d : Nat} {ls : qL} {st : List qV} {h : qH} {R : qR} : Wp d 1 0 ls st h R ↔ qB (qdn Wp d) (fun lb ls st h => Wp d 1 lb ls st h R) R k_X0_grow_0 ls st h := Wp_u t_X0_grow rfl
theorem u_X0_grow_1 {d : Nat} {ls : qL} {st : List qV} {h : qH} {R : qR} : Wp d 1 1 ls st h R ↔ qB (qdn Wp d) (fun lb ls st h => Wp d 1 lb ls st h R) R k_X0_grow_1 ls st h := Wp_u t_X0_grow rfl
theorem u_X0_grow_2 {d : Nat} {ls : qL} {st : List qV} {h : qH} {R : qR} : Wp d 1 2 ls st h R ↔ qB (qdn Wp d) (fun lb ls st h => Wp d 1 lb ls st h R) R k_X0_grow_2 ls st h := Wp_u t_X0_grow rfl
theorem u_X0_grow_3 {d : Nat} {ls : qL} {st : List qV} {h : qH} {R : qR} : Wp d 1 3 ls st h R ↔ qB (qdn Wp d) (fun lb ls st h => Wp d 1 lb ls st h R) R k_X0_grow_3 ls st h := Wp_u t_X0_grow rfl
theorem u_X0_grow_4 {d : Nat} {ls : qL} {st : List qV} {h : qH} {R : qR} : Wp d 1 4 ls st h R ↔ qB (qdn Wp d) (fun lb ls st h => Wp d 1 lb ls st h R) R k_X0_grow_4 ls st h := Wp_u t_X0_grow rfl
theorem u_X0_grow_5 {d : Nat} {ls : qL} {st : List qV} {h : qH} {R : qR} : Wp d 1 5 ls st h R ↔ qB (qdn Wp d) (fun lb ls st h => Wp d 1 lb ls st h R) R k_X0_grow_5 ls st h := Wp_u t_X0_grow rfl
set_option maxRecDepth 10000 in
theorem t_X0_settle : qnth qTab 2 [] = kk_X0_settle := rfl
theorem u_X0_settle_0 {d : Nat} {ls : qL} {st : List qV} {h : qH} {R : qR} : Wp d 2 0 ls st h R ↔ qB (qdn Wp d) (fun lb ls st h => Wp d 2 lb ls st h R) R k_X0_settle_0 ls st h := Wp_u t_X0_settle rfl
theorem u_X0_settle_1 {d : Nat} {ls : qL} {st : List qV} {h : qH} {R : qR} : Wp d 2 1 ls st h R ↔ qB (qdn Wp d) (fun lb ls st h => Wp d 2 lb ls st h R) R k_X0_settle_1 ls st h := Wp_u t_X0_settle rfl
theorem u_X0_settle_2 {d : Nat} {ls : qL} {st : List qV} {h : qH} {R : qR} : Wp d 2 2 ls st h R ↔ qB (qdn Wp d) (fun lb ls st h => Wp d 2 lb ls st h R) R k_X0_settle_2 ls st h := Wp_u t_X0_settle rfl
theorem u_X0_settle_3 {d : Nat} {ls : qL} {st : List qV} {h : qH} {R : qR} : Wp d 2 3 ls st h R ↔ qB (qdn Wp d) (fun lb ls st h => Wp d 2 lb ls st h R) R k_X0_settle_3 ls st h := Wp_u t_X0_settle rfl
theorem u_X0_settle_4 {d : Nat} {ls : qL} {st : List qV} {h : qH} {R : qR} : Wp d 2 4 ls st h R ↔ qB (qdn Wp d) (fun lb ls st h => Wp d 2 lb ls st h R) R k_X0_settle_4 ls st h := Wp_u t_X0_settle rfl
theorem u_X0_settle_5 {d : Nat} {ls : qL} {st : List qV} {h : qH} {R : qR} : Wp d 2 5 ls st h R ↔ qB (qdn Wp d) (fun lb ls st h => Wp d 2 lb ls st h R) R k_X0_settle_5 ls st h := Wp_u t_X0_settle rfl
set_option maxRecDepth 10000 in
theorem t_X0_name : qnth qTab 3 [] = kk_X0_name := rfl
theorem u_X0_name_0 {d : Nat} {ls : qL} {st : List qV} {h : qH} {R : qR} : Wp d 3 0 ls st h R ↔ qB (qdn Wp d) (fun lb ls st h => Wp d 3 lb ls st h R) R k_X0_name_0 ls st h := Wp_u t_X0_name rfl
set_option maxRecDepth 10000 in
theorem t_X0_write : qnth qTab 4 [] = kk_X0_write := rfl
theorem u_X0_write_0 {d : Nat} {ls : qL} {st : List qV} {h : qH} {R : qR} : Wp d 4 0 ls st h R ↔ qB (qdn Wp d) (fun lb ls st h => Wp d 4 lb ls st h R) R k_X0_write_0 ls st h := Wp_u t_X0_write rfl
theorem u_X0_write_1 {d : Nat} {ls : qL} {st : List qV} {h : qH} {R : qR} : Wp d 4 1 ls st h R ↔ qB (qdn Wp d) (fun lb ls st h => Wp d 4 lb ls st h R) R k_X0_write_1 ls st h := Wp_u t_X0_write rfl
set_option maxRecDepth 10000 in
theorem t_X0_fact : qnth qTab 5 [] = kk_X0_fact := rfl
theorem u_X0_fact_0 {d : Nat} {ls : qL} {st : List qV} {h : qH} {R : qR} : Wp d 5 0 ls st h R ↔ qB (qdn Wp d) (fun lb ls st h => Wp d 5 lb ls st h R) R k_X0_fact_0 ls st h := Wp_u t_X0_fact rfl
theorem u_X0_fact_1 {d : Nat} {ls : qL} {st : List qV} {h : qH} {R : qR} : Wp d 5 1 ls st h R ↔ qB (qdn Wp d) (fun lb ls st h => Wp d 5 lb ls st h R) R k_X0_fact_1 ls st h := Wp_u t_X0_fact rfl
theorem u_X0_fact_2 {d : Nat} {ls : qL} {st : List qV} {h : qH} {R : qR} : Wp d 5 2 ls st h R ↔ qB (qdn Wp d) (fun lb ls st h => Wp d 5 lb ls st h R) R k_X0_fact_2 ls st h := Wp_u t_X0_fact rfl
set_option maxRecDepth 10000 in
theorem t_X0_timesUsed : qnth qTab 6 [] = kk_X0_timesUsed := rfl
theorem u_X0_timesUsed_0 {d : Nat} {ls : qL} {st : List qV} {h : qH} {R : qR} : Wp d 6 0 ls st h R ↔ qB (qdn Wp d) (fun lb ls st h => Wp d 6 lb ls st h R) R k_X0_timesUsed_0 ls st h := Wp_u t_X0_timesUsed rfl
theorem u_X0_timesUsed_1 {d : Nat} {ls : qL} {st : List qV} {h : qH} {R : qR} : Wp d 6 1 ls st h R ↔ qB (qdn Wp d) (fun lb ls st h => Wp d 6 lb ls st h R) R k_X0_timesUsed_1 ls st h := Wp_u t_X0_timesUsed rfl
theorem u_X0_timesUsed_2 {d : Nat} {ls : qL} {st : List qV} {h : qH} {R : qR} : Wp d 6 2 ls st h R ↔ qB (qdn Wp d) (fun lb ls st h => Wp d 6 lb ls st h R) R k_X0_timesUsed_2 ls st h := Wp_u t_X0_timesUsed rfl
set_option maxRecDepth 10000 in
theorem t_X0_wasted : qnth qTab 7 [] = kk_X0_wasted := rfl
theorem u_X0_wasted_0 {d : Nat} {ls : qL} {st : List qV} {h : qH} {R : qR} : Wp d 7 0 ls st h R ↔ qB (qdn Wp d) (fun lb ls st h => Wp d 7 lb ls st h R) R k_X0_wasted_0 ls st h := Wp_u t_X0_wasted rfl
set_option maxRecDepth 10000 in
theorem t_X0_partOn : qnth qTab 8 [] = kk_X0_partOn := rfl
theorem u_X0_partOn_0 {d : Nat} {ls : qL} {st : List qV} {h : qH} {R : qR} : Wp d 8 0 ls st h R ↔ qB (qdn Wp d) (fun lb ls st h => Wp d 8 lb ls st h R) R k_X0_partOn_0 ls st h := Wp_u t_X0_partOn rfl
theorem u_X0_partOn_1 {d : Nat} {ls : qL} {st : List qV} {h : qH} {R : qR} : Wp d 8 1 ls st h R ↔ qB (qdn Wp d) (fun lb ls st h => Wp d 8 lb ls st h R) R k_X0_partOn_1 ls st h := Wp_u t_X0_partOn rfl
theorem u_X0_partOn_2 {d : Nat} {ls : qL} {st : List qV} {h : qH} {R : qR} : Wp d 8 2 ls st h R ↔ qB (qdn Wp d) (fun lb ls st h => Wp d 8 lb ls st h R) R k_X0_partOn_2 ls st h := Wp_u t_X0_partOn rfl
theorem u_X0_partOn_3 {d : Nat} {ls : qL} {st : List qV} {h : qH} {R : qR} : Wp d 8 3 ls st h R ↔ qB (qdn Wp d) (fun lb ls st h => Wp d 8 lb ls st h R) R k_X0_partOn_3 ls st h := Wp_u t_X0_partOn rfl
set_option maxRecDepth 10000 in
theorem t_X0_telling : qnth qTab 9 [] = kk_X0_telling := rfl
theorem u_X0_telling_0 {d : Nat} {ls : qL} {st : List qV} {h : qH} {R : qR} : Wp d 9 0 ls st h R ↔ qB (qdn Wp d) (fun lb ls st h => Wp d 9 lb ls st h R) R k_X0_telling_0 ls st h := Wp_u t_X0_telling rfl
theorem u_X0_telling_1 {d : Nat} {ls : qL} {st : List qV} {h : qH} {R : qR} : Wp d 9 1 ls st h R ↔ qB (qdn Wp d) (fun lb ls st h => Wp d 9 lb ls st h R) R k_X0_telling_1 ls st h := Wp_u t_X0_telling rfl
theorem u_X0_telling_2 {d : Nat} {ls : qL} {st : List qV} {h : qH} {R : qR} : Wp d 9 2 ls st h R ↔ qB (qdn Wp d) (fun lb ls st h => Wp d 9 lb ls st h R) R k_X0_telling_2 ls st h := Wp_u t_X0_telling rfl
set_option maxRecDepth 10000 in
theorem t_X0_firstOtherwise : qnth qTab 10 [] = kk_X0_firstOtherwise := rfl
theorem u_X0_firstOtherwise_0 {d : Nat} {ls : qL} {st : List qV} {h : qH} {R : qR} : Wp d 10 0 ls st h R ↔ qB (qdn Wp d) (fun lb ls st h => Wp d 10 lb ls st h R) R k_X0_firstOtherwise_0 ls st h := Wp_u t_X0_firstOtherwise rfl
theorem u_X0_firstOtherwise_1 {d : Nat} {ls : qL} {st : List qV} {h : qH} {R : qR} : Wp d 10 1 ls st h R ↔ qB (qdn Wp d) (fun lb ls st h => Wp d 10 lb ls st h R) R k_X0_firstOtherwise_1 ls st h := Wp_u t_X0_firstOtherwise rfl
theorem u_X0_firstOtherwise_2 {d : Nat} {ls : qL} {st : List qV} {h : qH} {R : qR} : Wp d 10 2 ls st h R ↔ qB (qdn Wp d) (fun lb ls st h => Wp d 10 lb ls st h R) R k_X0_firstOtherwise_2 ls st h := Wp_u t_X0_firstOtherwise rfl
theorem u_X0_firstOtherwise_3 {d : Nat} {ls : qL} {st : List qV} {h : qH} {R : qR} : Wp d 10 3 ls st h R ↔ qB (qdn Wp d) (fun lb ls st h => Wp d 10 lb ls st h R) R k_X0_firstOtherwise_3 ls st h := Wp_u t_X0_firstOtherwise rfl
set_option maxRecDepth 10000 in
theorem t_X1_append : qnth qTab 11 [] = kk_X1_append := rfl
theorem u_X1_append_0 {d : Nat} {ls : qL} {st : List qV} {h : qH} {R : qR} : Wp d 11 0 ls st h R ↔ qB (qdn Wp d) (fun lb ls st h => Wp d 11 lb ls st h R) R k_X1_append_0 ls st h := Wp_u t_X1_append rfl
theorem u_X1_append_1 {d : Nat} {ls : qL} {st : List qV} {h : qH} {R : qR} : Wp d 11 1 ls st h R ↔ qB (qdn Wp d) (fun lb ls st h => Wp d 11 lb ls st h R) R k_X1_append_1 ls st h := Wp_u t_X1_append rfl
theorem u_X1_append_2 {d : Nat} {ls : qL} {st : List qV} {h : qH} {R : qR} : Wp d 11 2 ls st h R ↔ qB (qdn Wp d) (fun lb ls st h => Wp d 11 lb ls st h R) R k_X1_append_2 ls st h := Wp_u t_X1_append rfl
set_option maxRecDepth 10000 in
theorem t_X1_first : qnth qTab 12 [] = kk_X1_first := rfl
theorem u_X1_first_0 {d : Nat} {ls : qL} {st : List qV} {h : qH} {R : qR} : Wp d 12 0 ls st h R ↔ qB (qdn Wp d) (fun lb ls st h => Wp d 12 lb ls st h R) R k_X1_first_0 ls st h := Wp_u t_X1_first rfl
theorem u_X1_first_1 {d : Nat} {ls : qL} {st : List qV} {h : qH} {R : qR} : Wp d 12 1 ls st h R ↔ qB (qdn Wp d) (fun lb ls st h => Wp d 12 lb ls st h R) R k_X1_first_1 ls st h := Wp_u t_X1_first rfl
theorem u_X1_first_2 {d : Nat} {ls : qL} {st : List qV} {h : qH} {R : qR} : Wp d 12 2 ls st h R ↔ qB (qdn Wp d) (fun lb ls st h => Wp d 12 lb ls st h R) R k_X1_first_2 ls st h := Wp_u t_X1_first rfl
set_option maxRecDepth 10000 in
theorem t_X1_second : qnth qTab 13 [] = kk_X1_second := rfl
theorem u_X1_second_0 {d : Nat} {ls : qL} {st : List qV} {h : qH} {R : qR} : Wp d 13 0 ls st h R ↔ qB (qdn Wp d) (fun lb ls st h => Wp d 13 lb ls st h R) R k_X1_second_0 ls st h := Wp_u t_X1_second rfl
theorem u_X1_second_1 {d : Nat} {ls : qL} {st : List qV} {h : qH} {R : qR} : Wp d 13 1 ls st h R ↔ qB (qdn Wp d) (fun lb ls st h => Wp d 13 lb ls st h R) R k_X1_second_1 ls st h := Wp_u t_X1_second rfl
theorem u_X1_second_2 {d : Nat} {ls : qL} {st : List qV} {h : qH} {R : qR} : Wp d 13 2 ls st h R ↔ qB (qdn Wp d) (fun lb ls st h => Wp d 13 lb ls st h R) R k_X1_second_2 ls st h := Wp_u t_X1_second rfl
set_option maxRecDepth 10000 in
theorem t_X1_copyFrom : qnth qTab 14 [] = kk_X1_copyFrom := rfl
theorem u_X1_copyFrom_0 {d : Nat} {ls : qL} {st : List qV} {h : qH} {R : qR} : Wp d 14 0 ls st h R ↔ qB (qdn Wp d) (fun lb ls st h => Wp d 14 lb ls st h R) R k_X1_copyFrom_0 ls st h := Wp_u t_X1_copyFrom rfl
set_option maxRecDepth 10000 in
theorem t_X2_copyFrom : qnth qTab 15 [] = kk_X2_copyFrom := rfl
theorem u_X2_copyFrom_0 {d : Nat} {ls : qL} {st : List qV} {h : qH} {R : qR} : Wp d 15 0 ls st h R ↔ qB (qdn Wp d) (fun lb ls st h => Wp d 15 lb ls st h R) R k_X2_copyFrom_0 ls st h := Wp_u t_X2_copyFrom rfl
set_option maxRecDepth 10000 in
theorem t_X2_has : qnth qTab 16 [] = kk_X2_has := rfl
theorem u_X2_has_0 {d : Nat} {ls : qL} {st : List qV} {h : qH} {R : qR} : Wp d 16 0 ls st h R ↔ qB (qdn Wp d) (fun lb ls st h => Wp d 16 lb ls st h R) R k_X2_has_0 ls st h := Wp_u t_X2_has rfl
theorem u_X2_has_1 {d : Nat} {ls : qL} {st : List qV} {h : qH} {R : qR} : Wp d 16 1 ls st h R ↔ qB (qdn Wp d) (fun lb ls st h => Wp d 16 lb ls st h R) R k_X2_has_1 ls st h := Wp_u t_X2_has rfl
theorem u_X2_has_2 {d : Nat} {ls : qL} {st : List qV} {h : qH} {R : qR} : Wp d 16 2 ls st h R ↔ qB (qdn Wp d) (fun lb ls st h => Wp d 16 lb ls st h R) R k_X2_has_2 ls st h := Wp_u t_X2_has rfl
set_option maxRecDepth 10000 in
theorem t_X2_fact : qnth qTab 17 [] = kk_X2_fact := rfl
theorem u_X2_fact_0 {d : Nat} {ls : qL} {st : List qV} {h : qH} {R : qR} : Wp d 17 0 ls st h R ↔ qB (qdn Wp d) (fun lb ls st h => Wp d 17 lb ls st h R) R k_X2_fact_0 ls st h := Wp_u t_X2_fact rfl
theorem u_X2_fact_1 {d : Nat} {ls : qL} {st : List qV} {h : qH} {R : qR} : Wp d 17 1 ls st h R ↔ qB (qdn Wp d) (fun lb ls st h => Wp d 17 lb ls st h R) R k_X2_fact_1 ls st h := Wp_u t_X2_fact rfl
theorem u_X2_fact_2 {d : Nat} {ls : qL} {st : List qV} {h : qH} {R : qR} : Wp d 17 2 ls st h R ↔ qB (qdn Wp d) (fun lb ls st h => Wp d 17 lb ls st h R) R k_X2_fact_2 ls st h := Wp_u t_X2_fact rfl
set_option maxRecDepth 10000 in
theorem t_X2_write : qnth qTab 18 [] = kk_X2_write := rfl
theorem u_X2_write_0 {d : Nat} {ls : qL} {st : List qV} {h : qH} {R : qR} : Wp d 18 0 ls st h R ↔ qB (qdn Wp d) (fun lb ls st h => Wp d 18 lb ls st h R) R k_X2_write_0 ls st h := Wp_u t_X2_write rfl
theorem u_X2_write_1 {d : Nat} {ls : qL} {st : List qV} {h : qH} {R : qR} : Wp d 18 1 ls st h R ↔ qB (qdn Wp d) (fun lb ls st h => Wp d 18 lb ls st h R) R k_X2_write_1 ls st h := Wp_u t_X2_write rfl
set_option maxRecDepth 10000 in
theorem t_X2_hasSquare : qnth qTab 19 [] = kk_X2_hasSquare := rfl
theorem u_X2_hasSquare_0 {d : Nat} {ls : qL} {st : List qV} {h : qH} {R : qR} : Wp d 19 0 ls st h R ↔ qB (qdn Wp d) (fun lb ls st h => Wp d 19 lb ls st h R) R k_X2_hasSquare_0 ls st h := Wp_u t_X2_hasSquare rfl
theorem u_X2_hasSquare_1 {d : Nat} {ls : qL} {st : List qV} {h : qH} {R : qR} : Wp d 19 1 ls st h R ↔ qB (qdn Wp d) (fun lb ls st h => Wp d 19 lb ls st h R) R k_X2_hasSquare_1 ls st h := Wp_u t_X2_hasSquare rfl
theorem u_X2_hasSquare_2 {d : Nat} {ls : qL} {st : List qV} {h : qH} {R : qR} : Wp d 19 2 ls st h R ↔ qB (qdn Wp d) (fun lb ls st h => Wp d 19 lb ls st h R) R k_X2_hasSquare_2 ls st h := Wp_u t_X2_hasSquare rfl
set_option maxRecDepth 10000 in
theorem t_X2_hasPiece : qnth qTab 20 [] = kk_X2_hasPiece := rfl
theorem u_X2_hasPiece_0 {d : Nat} {ls : qL} {st : List qV} {h : qH} {R : qR} : Wp d 20 0 ls st h R ↔ qB (qdn Wp d) (fun lb ls st h => Wp d 20 lb ls st h R) R k_X2_hasPiece_0 ls st h := Wp_u t_X2_hasPiece rfl
theorem u_X2_hasPiece_1 {d : Nat} {ls : qL} {st : List qV} {h : qH} {R : qR} : Wp d 20 1 ls st h R ↔ qB (qdn Wp d) (fun lb ls st h => Wp d 20 lb ls st h R) R k_X2_hasPiece_1 ls st h := Wp_u t_X2_hasPiece rfl
theorem u_X2_hasPiece_2 {d : Nat} {ls : qL} {st : List qV} {h : qH} {R : qR} : Wp d 20 2 ls st h R ↔ qB (qdn Wp d) (fun lb ls st h => Wp d 20 lb ls st h R) R k_X2_hasPiece_2 ls st h := Wp_u t_X2_hasPiece rfl
set_option maxRecDepth 10000 in
theorem t_X2_isSound : qnth qTab 21 [] = kk_X2_isSound := rfl
theorem u_X2_isSound_0 {d : Nat} {ls : qL} {st : List qV} {h : qH} {R : qR} : Wp d 21 0 ls st h R ↔ qB (qdn Wp d) (fun lb ls st h => Wp d 21 lb ls st h R) R k_X2_isSound_0 ls st h := Wp_u t_X2_isSound rfl
theorem u_X2_isSound_1 {d : Nat} {ls : qL} {st : List qV} {h : qH} {R : qR} : Wp d 21 1 ls st h R ↔ qB (qdn Wp d) (fun lb ls st h => Wp d 21 lb ls st h R) R k_X2_isSound_1 ls st h := Wp_u t_X2_isSound rfl
theorem u_X2_isSound_2 {d : Nat} {ls : qL} {st : List qV} {h : qH} {R : qR} : Wp d 21 2 ls st h R ↔ qB (qdn Wp d) (fun lb ls st h => Wp d 21 lb ls st h R) R k_X2_isSound_2 ls st h := Wp_u t_X2_isSound rfl
theorem u_X2_isSound_3 {d : Nat} {ls : qL} {st : List qV} {h : qH} {R : qR} : Wp d 21 3 ls st h R ↔ qB (qdn Wp d) (fun lb ls st h => Wp d 21 lb ls st h R) R k_X2_isSound_3 ls st h := Wp_u t_X2_isSound rfl
set_option maxRecDepth 10000 in
theorem t_X2_isOfSize : qnth qTab 22 [] = kk_X2_isOfSize := rfl
theorem u_X2_isOfSize_0 {d : Nat} {ls : qL} {st : List qV} {h : qH} {R : qR} : Wp d 22 0 ls st h R ↔ qB (qdn Wp d) (fun lb ls st h => Wp d 22 lb ls st h R) R k_X2_isOfSize_0 ls st h := Wp_u t_X2_isOfSize rfl
theorem u_X2_isOfSize_1 {d : Nat} {ls : qL} {st : List qV} {h : qH} {R : qR} : Wp d 22 1 ls st h R ↔ qB (qdn Wp d) (fun lb ls st h => Wp d 22 lb ls st h R) R k_X2_isOfSize_1 ls st h := Wp_u t_X2_isOfSize rfl
theorem u_X2_isOfSize_2 {d : Nat} {ls : qL} {st : List qV} {h : qH} {R : qR} : Wp d 22 2 ls st h R ↔ qB (qdn Wp d) (fun lb ls st h => Wp d 22 lb ls st h R) R k_X2_isOfSize_2 ls st h := Wp_u t_X2_isOfSize rfl
theorem u_X2_isOfSize_3 {d : Nat} {ls : qL} {st : List qV} {h : qH} {R : qR} : Wp d 22 3 ls st h R ↔ qB (qdn Wp d) (fun lb ls st h => Wp d 22 lb ls st h R) R k_X2_isOfSize_3 ls st h := Wp_u t_X2_isOfSize rfl
theorem u_X2_isOfSize_4 {d : Nat} {ls : qL} {st : List qV} {h : qH} {R : qR} : Wp d 22 4 ls st h R ↔ qB (qdn Wp d) (fun lb ls st h => Wp d 22 lb ls st h R) R k_X2_isOfSize_4 ls st h := Wp_u t_X2_isOfSize rfl
set_option maxRecDepth 10000 in
theorem t_X2_leastPart : qnth qTab 23 [] = kk_X2_leastPart := rfl
theorem u_X2_leastPart_0 {d : Nat} {ls : qL} {st : List qV} {h : qH} {R : qR} : Wp d 23 0 ls st h R ↔ qB (qdn Wp d) (fun lb ls st h => Wp d 23 lb ls st h R) R k_X2_leastPart_0 ls st h := Wp_u t_X2_leastPart rfl
theorem u_X2_leastPart_1 {d : Nat} {ls : qL} {st : List qV} {h : qH} {R : qR} : Wp d 23 1 ls st h R ↔ qB (qdn Wp d) (fun lb ls st h => Wp d 23 lb ls st h R) R k_X2_leastPart_1 ls st h := Wp_u t_X2_leastPart rfl
theorem u_X2_leastPart_2 {d : Nat} {ls : qL} {st : List qV} {h : qH} {R : qR} : Wp d 23 2 ls st h R ↔ qB (qdn Wp d) (fun lb ls st h => Wp d 23 lb ls st h R) R k_X2_leastPart_2 ls st h := Wp_u t_X2_leastPart rfl
theorem u_X2_leastPart_3 {d : Nat} {ls : qL} {st : List qV} {h : qH} {R : qR} : Wp d 23 3 ls st h R ↔ qB (qdn Wp d) (fun lb ls st h => Wp d 23 lb ls st h R) R k_X2_leastPart_3 ls st h := Wp_u t_X2_leastPart rfl
theorem u_X2_leastPart_4 {d : Nat} {ls : qL} {st : List qV} {h : qH} {R : qR} : Wp d 23 4 ls st h R ↔ qB (qdn Wp d) (fun lb ls st h => Wp d 23 lb ls st h R) R k_X2_leastPart_4 ls st h := Wp_u t_X2_leastPart rfl
set_option maxRecDepth 10000 in
theorem t_X2_greatestWorth : qnth qTab 24 [] = kk_X2_greatestWorth := rfl
theorem u_X2_greatestWorth_0 {d : Nat} {ls : qL} {st : List qV} {h : qH} {R : qR} : Wp d 24 0 ls st h R ↔ qB (qdn Wp d) (fun lb ls st h => Wp d 24 lb ls st h R) R k_X2_greatestWorth_0 ls st h := Wp_u t_X2_greatestWorth rfl
theorem u_X2_greatestWorth_1 {d : Nat} {ls : qL} {st : List qV} {h : qH} {R : qR} : Wp d 24 1 ls st h R ↔ qB (qdn Wp d) (fun lb ls st h => Wp d 24 lb ls st h R) R k_X2_greatestWorth_1 ls st h := Wp_u t_X2_greatestWorth rfl
theorem u_X2_greatestWorth_2 {d : Nat} {ls : qL} {st : List qV} {h : qH} {R : qR} : Wp d 24 2 ls st h R ↔ qB (qdn Wp d) (fun lb ls st h => Wp d 24 lb ls st h R) R k_X2_greatestWorth_2 ls st h := Wp_u t_X2_greatestWorth rfl
theorem u_X2_greatestWorth_3 {d : Nat} {ls : qL} {st : List qV} {h : qH} {R : qR} : Wp d 24 3 ls st h R ↔ qB (qdn Wp d) (fun lb ls st h => Wp d 24 lb ls st h R) R k_X2_greatestWorth_3 ls st h := Wp_u t_X2_greatestWorth rfl
set_option maxRecDepth 10000 in
theorem t_X2_lengths : qnth qTab 25 [] = kk_X2_lengths := rfl
theorem u_X2_lengths_0 {d : Nat} {ls : qL} {st : List qV} {h : qH} {R : qR} : Wp d 25 0 ls st h R ↔ qB (qdn Wp d) (fun lb ls st h => Wp d 25 lb ls st h R) R k_X2_lengths_0 ls st h := Wp_u t_X2_lengths rfl
theorem u_X2_lengths_1 {d : Nat} {ls : qL} {st : List qV} {h : qH} {R : qR} : Wp d 25 1 ls st h R ↔ qB (qdn Wp d) (fun lb ls st h => Wp d 25 lb ls st h R) R k_X2_lengths_1 ls st h := Wp_u t_X2_lengths rfl
theorem u_X2_lengths_2 {d : Nat} {ls : qL} {st : List qV} {h : qH} {R : qR} : Wp d 25 2 ls st h R ↔ qB (qdn Wp d) (fun lb ls st h => Wp d 25 lb ls st h R) R k_X2_lengths_2 ls st h := Wp_u t_X2_lengths rfl
theorem u_X2_lengths_3 {d : Nat} {ls : qL} {st : List qV} {h : qH} {R : qR} : Wp d 25 3 ls st h R ↔ qB (qdn Wp d) (fun lb ls st h => Wp d 25 lb ls st h R) R k_X2_lengths_3 ls st h := Wp_u t_X2_lengths rfl
theorem u_X2_lengths_4 {d : Nat} {ls : qL} {st : List qV} {h : qH} {R : qR} : Wp d 25 4 ls st h R ↔ qB (qdn Wp d) (fun lb ls st h => Wp d 25 lb ls st h R) R k_X2_lengths_4 ls st h := Wp_u t_X2_lengths rfl
theorem u_X2_lengths_5 {d : Nat} {ls : qL} {st : List qV} {h : qH} {R : qR} : Wp d 25 5 ls st h R ↔ qB (qdn Wp d) (fun lb ls st h => Wp d 25 lb ls st h R) R k_X2_lengths_5 ls st h := Wp_u t_X2_lengths rfl
theorem u_X2_lengths_6 {d : Nat} {ls : qL} {st : List qV} {h : qH} {R : qR} : Wp d 25 6 ls st h R ↔ qB (qdn Wp d) (fun lb ls st h => Wp d 25 lb ls st h R) R k_X2_lengths_6 ls st h := Wp_u t_X2_lengths rfl
set_option maxRecDepth 10000 in
theorem t_X2_befall : qnth qTab 26 [] = kk_X2_befall := rfl
theorem u_X2_befall_0 {d : Nat} {ls : qL} {st : List qV} {h : qH} {R : qR} : Wp d 26 0 ls st h R ↔ qB (qdn Wp d) (fun lb ls st h => Wp d 26 lb ls st h R) R k_X2_befall_0 ls st h := Wp_u t_X2_befall rfl
theorem u_X2_befall_1 {d : Nat} {ls : qL} {st : List qV} {h : qH} {R : qR} : Wp d 26 1 ls st h R ↔ qB (qdn Wp d) (fun lb ls st h => Wp d 26 lb ls st h R) R k_X2_befall_1 ls st h := Wp_u t_X2_befall rfl
theorem u_X2_befall_2 {d : Nat} {ls : qL} {st : List qV} {h : qH} {R : qR} : Wp d 26 2 ls st h R ↔ qB (qdn Wp d) (fun lb ls st h => Wp d 26 lb ls st h R) R k_X2_befall_2 ls st h := Wp_u t_X2_befall rfl
theorem u_X2_befall_3 {d : Nat} {ls : qL} {st : List qV} {h : qH} {R : qR} : Wp d 26 3 ls st h R ↔ qB (qdn Wp d) (fun lb ls st h => Wp d 26 lb ls st h R) R k_X2_befall_3 ls st h := Wp_u t_X2_befall rfl
theorem u_X2_befall_4 {d : Nat} {ls : qL} {st : List qV} {h : qH} {R : qR} : Wp d 26 4 ls st h R ↔ qB (qdn Wp d) (fun lb ls st h => Wp d 26 lb ls st h R) R k_X2_befall_4 ls st h := Wp_u t_X2_befall rfl
theorem u_X2_befall_5 {d : Nat} {ls : qL} {st : List qV} {h : qH} {R : qR} : Wp d 26 5 ls st h R ↔ qB (qdn Wp d) (fun lb ls st h => Wp d 26 lb ls st h R) R k_X2_befall_5 ls st h := Wp_u t_X2_befall rfl
set_option maxRecDepth 10000 in
theorem t_X3_copyFrom : qnth qTab 27 [] = kk_X3_copyFrom := rfl
theorem u_X3_copyFrom_0 {d : Nat} {ls : qL} {st : List qV} {h : qH} {R : qR} : Wp d 27 0 ls st h R ↔ qB (qdn Wp d) (fun lb ls st h => Wp d 27 lb ls st h R) R k_X3_copyFrom_0 ls st h := Wp_u t_X3_copyFrom rfl
set_option maxRecDepth 10000 in
theorem t_X4_become : qnth qTab 28 [] = kk_X4_become := rfl
theorem u_X4_become_0 {d : Nat} {ls : qL} {st : List qV} {h : qH} {R : qR} : Wp d 28 0 ls st h R ↔ qB (qdn Wp d) (fun lb ls st h => Wp d 28 lb ls st h R) R k_X4_become_0 ls st h := Wp_u t_X4_become rfl
set_option maxRecDepth 10000 in
theorem t_X4_hasPlace : qnth qTab 29 [] = kk_X4_hasPlace := rfl
theorem u_X4_hasPlace_0 {d : Nat} {ls : qL} {st : List qV} {h : qH} {R : qR} : Wp d 29 0 ls st h R ↔ qB (qdn Wp d) (fun lb ls st h => Wp d 29 lb ls st h R) R k_X4_hasPlace_0 ls st h := Wp_u t_X4_hasPlace rfl
theorem u_X4_hasPlace_1 {d : Nat} {ls : qL} {st : List qV} {h : qH} {R : qR} : Wp d 29 1 ls st h R ↔ qB (qdn Wp d) (fun lb ls st h => Wp d 29 lb ls st h R) R k_X4_hasPlace_1 ls st h := Wp_u t_X4_hasPlace rfl
theorem u_X4_hasPlace_2 {d : Nat} {ls : qL} {st : List qV} {h : qH} {R : qR} : Wp d 29 2 ls st h R ↔ qB (qdn Wp d) (fun lb ls st h => Wp d 29 lb ls st h R) R k_X4_hasPlace_2 ls st h := Wp_u t_X4_hasPlace rfl
set_option maxRecDepth 10000 in
theorem t_X4_hasRange : qnth qTab 30 [] = kk_X4_hasRange := rfl
theorem u_X4_hasRange_0 {d : Nat} {ls : qL} {st : List qV} {h : qH} {R : qR} : Wp d 30 0 ls st h R ↔ qB (qdn Wp d) (fun lb ls st h => Wp d 30 lb ls st h R) R k_X4_hasRange_0 ls st h := Wp_u t_X4_hasRange rfl
theorem u_X4_hasRange_1 {d : Nat} {ls : qL} {st : List qV} {h : qH} {R : qR} : Wp d 30 1 ls st h R ↔ qB (qdn Wp d) (fun lb ls st h => Wp d 30 lb ls st h R) R k_X4_hasRange_1 ls st h := Wp_u t_X4_hasRange rfl
theorem u_X4_hasRange_2 {d : Nat} {ls : qL} {st : List qV} {h : qH} {R : qR} : Wp d 30 2 ls st h R ↔ qB (qdn Wp d) (fun lb ls st h => Wp d 30 lb ls st h R) R k_X4_hasRange_2 ls st h := Wp_u t_X4_hasRange rfl
set_option maxRecDepth 10000 in
theorem t_X4_asItem : qnth qTab 31 [] = kk_X4_asItem := rfl
theorem u_X4_asItem_0 {d : Nat} {ls : qL} {st : List qV} {h : qH} {R : qR} : Wp d 31 0 ls st h R ↔ qB (qdn Wp d) (fun lb ls st h => Wp d 31 lb ls st h R) R k_X4_asItem_0 ls st h := Wp_u t_X4_asItem rfl
theorem u_X4_asItem_1 {d : Nat} {ls : qL} {st : List qV} {h : qH} {R : qR} : Wp d 31 1 ls st h R ↔ qB (qdn Wp d) (fun lb ls st h => Wp d 31 lb ls st h R) R k_X4_asItem_1 ls st h := Wp_u t_X4_asItem rfl
theorem u_X4_asItem_2 {d : Nat} {ls : qL} {st : List qV} {h : qH} {R : qR} : Wp d 31 2 ls st h R ↔ qB (qdn Wp d) (fun lb ls st h => Wp d 31 lb ls st h R) R k_X4_asItem_2 ls st h := Wp_u t_X4_asItem rfl
theorem u_X4_asItem_3 {d : Nat} {ls : qL} {st : List qV} {h : qH} {R : qR} : Wp d 31 3 ls st h R ↔ qB (qdn Wp d) (fun lb ls st h => Wp d 31 lb ls st h R) R k_X4_asItem_3 ls st h := Wp_u t_X4_asItem rfl
theorem u_X4_asItem_4 {d : Nat} {ls : qL} {st : List qV} {h : qH} {R : qR} : Wp d 31 4 ls st h R ↔ qB (qdn Wp d) (fun lb ls st h => Wp d 31 lb ls st h R) R k_X4_asItem_4 ls st h := Wp_u t_X4_asItem rfl
theorem u_X4_asItem_5 {d : Nat} {ls : qL} {st : List qV} {h : qH} {R : qR} : Wp d 31 5 ls st h R ↔ qB (qdn Wp d) (fun lb ls st h => Wp d 31 lb ls st h R) R k_X4_asItem_5 ls st h := Wp_u t_X4_asItem rfl
theorem u_X4_asItem_6 {d : Nat} {ls : qL} {st : List qV} {h : qH} {R : qR} : Wp d 31 6 ls st h R ↔ qB (qdn Wp d) (fun lb ls st h => Wp d 31 lb ls st h R) R k_X4_asItem_6 ls st h := Wp_u t_X4_asItem rfl
theorem u_X4_asItem_7 {d : Nat} {ls : qL} {st : List qV} {h : qH} {R : qR} : Wp d 31 7 ls st h R ↔ qB (qdn Wp d) (fun lb ls st h => Wp d 31 lb ls st h R) R k_X4_asItem_7 ls st h := Wp_u t_X4_asItem rfl
set_option maxRecDepth 10000 in
theorem t_X5_append : qnth qTab 32 [] = kk_X5_append := rfl
theorem u_X5_append_0 {d : Nat} {ls : qL} {st : List qV} {h : qH} {R : qR} : Wp d 32 0 ls st h R ↔ qB (qdn Wp d) (fun lb ls st h => Wp d 32 lb ls st h R) R k_X5_append_0 ls st h := Wp_u t_X5_append rfl
theorem u_X5_append_1 {d : Nat} {ls : qL} {st : List qV} {h : qH} {R : qR} : Wp d 32 1 ls st h R ↔ qB (qdn Wp d) (fun lb ls st h => Wp d 32 lb ls st h R) R k_X5_append_1 ls st h := Wp_u t_X5_append rfl
theorem u_X5_append_2 {d : Nat} {ls : qL} {st : List qV} {h : qH} {R : qR} : Wp d 32 2 ls st h R ↔ qB (qdn Wp d) (fun lb ls st h => Wp d 32 lb ls st h R) R k_X5_append_2 ls st h := Wp_u t_X5_append rfl
set_option maxRecDepth 10000 in
theorem t_X5_sign : qnth qTab 33 [] = kk_X5_sign := rfl
theorem u_X5_sign_0 {d : Nat} {ls : qL} {st : List qV} {h : qH} {R : qR} : Wp d 33 0 ls st h R ↔ qB (qdn Wp d) (fun lb ls st h => Wp d 33 lb ls st h R) R k_X5_sign_0 ls st h := Wp_u t_X5_sign rfl
theorem u_X5_sign_1 {d : Nat} {ls : qL} {st : List qV} {h : qH} {R : qR} : Wp d 33 1 ls st h R ↔ qB (qdn Wp d) (fun lb ls st h => Wp d 33 lb ls st h R) R k_X5_sign_1 ls st h := Wp_u t_X5_sign rfl
theorem u_X5_sign_2 {d : Nat} {ls : qL} {st : List qV} {h : qH} {R : qR} : Wp d 33 2 ls st h R ↔ qB (qdn Wp d) (fun lb ls st h => Wp d 33 lb ls st h R) R k_X5_sign_2 ls st h := Wp_u t_X5_sign rfl
set_option maxRecDepth 10000 in
theorem t_X5_isDigit : qnth qTab 34 [] = kk_X5_isDigit := rfl
theorem u_X5_isDigit_0 {d : Nat} {ls : qL} {st : List qV} {h : qH} {R : qR} : Wp d 34 0 ls st h R ↔ qB (qdn Wp d) (fun lb ls st h => Wp d 34 lb ls st h R) R k_X5_isDigit_0 ls st h := Wp_u t_X5_isDigit rfl
theorem u_X5_isDigit_1 {d : Nat} {ls : qL} {st : List qV} {h : qH} {R : qR} : Wp d 34 1 ls st h R ↔ qB (qdn Wp d) (fun lb ls st h => Wp d 34 lb ls st h R) R k_X5_isDigit_1 ls st h := Wp_u t_X5_isDigit rfl
theorem u_X5_isDigit_2 {d : Nat} {ls : qL} {st : List qV} {h : qH} {R : qR} : Wp d 34 2 ls st h R ↔ qB (qdn Wp d) (fun lb ls st h => Wp d 34 lb ls st h R) R k_X5_isDigit_2 ls st h := Wp_u t_X5_isDigit rfl
set_option maxRecDepth 10000 in
theorem t_X5_digit : qnth qTab 35 [] = kk_X5_digit := rfl
theorem u_X5_digit_0 {d : Nat} {ls : qL} {st : List qV} {h : qH} {R : qR} : Wp d 35 0 ls st h R ↔ qB (qdn Wp d) (fun lb ls st h => Wp d 35 lb ls st h R) R k_X5_digit_0 ls st h := Wp_u t_X5_digit rfl
set_option maxRecDepth 10000 in
theorem t_X5_worth : qnth qTab 36 [] = kk_X5_worth := rfl
theorem u_X5_worth_0 {d : Nat} {ls : qL} {st : List qV} {h : qH} {R : qR} : Wp d 36 0 ls st h R ↔ qB (qdn Wp d) (fun lb ls st h => Wp d 36 lb ls st h R) R k_X5_worth_0 ls st h := Wp_u t_X5_worth rfl
theorem u_X5_worth_1 {d : Nat} {ls : qL} {st : List qV} {h : qH} {R : qR} : Wp d 36 1 ls st h R ↔ qB (qdn Wp d) (fun lb ls st h => Wp d 36 lb ls st h R) R k_X5_worth_1 ls st h := Wp_u t_X5_worth rfl
theorem u_X5_worth_2 {d : Nat} {ls : qL} {st : List qV} {h : qH} {R : qR} : Wp d 36 2 ls st h R ↔ qB (qdn Wp d) (fun lb ls st h => Wp d 36 lb ls st h R) R k_X5_worth_2 ls st h := Wp_u t_X5_worth rfl
set_option maxRecDepth 10000 in
theorem t_X5_digitsDue : qnth qTab 37 [] = kk_X5_digitsDue := rfl
theorem u_X5_digitsDue_0 {d : Nat} {ls : qL} {st : List qV} {h : qH} {R : qR} : Wp d 37 0 ls st h R ↔ qB (qdn Wp d) (fun lb ls st h => Wp d 37 lb ls st h R) R k_X5_digitsDue_0 ls st h := Wp_u t_X5_digitsDue rfl
theorem u_X5_digitsDue_1 {d : Nat} {ls : qL} {st : List qV} {h : qH} {R : qR} : Wp d 37 1 ls st h R ↔ qB (qdn Wp d) (fun lb ls st h => Wp d 37 lb ls st h R) R k_X5_digitsDue_1 ls st h := Wp_u t_X5_digitsDue rfl
theorem u_X5_digitsDue_2 {d : Nat} {ls : qL} {st : List qV} {h : qH} {R : qR} : Wp d 37 2 ls st h R ↔ qB (qdn Wp d) (fun lb ls st h => Wp d 37 lb ls st h R) R k_X5_digitsDue_2 ls st h := Wp_u t_X5_digitsDue rfl
theorem u_X5_digitsDue_3 {d : Nat} {ls : qL} {st : List qV} {h : qH} {R : qR} : Wp d 37 3 ls st h R ↔ qB (qdn Wp d) (fun lb ls st h => Wp d 37 lb ls st h R) R k_X5_digitsDue_3 ls st h := Wp_u t_X5_digitsDue rfl
theorem u_X5_digitsDue_4 {d : Nat} {ls : qL} {st : List qV} {h : qH} {R : qR} : Wp d 37 4 ls st h R ↔ qB (qdn Wp d) (fun lb ls st h => Wp d 37 lb ls st h R) R k_X5_digitsDue_4 ls st h := Wp_u t_X5_digitsDue rfl
theorem u_X5_digitsDue_5 {d : Nat} {ls : qL} {st : List qV} {h : qH} {R : qR} : Wp d 37 5 ls st h R ↔ qB (qdn Wp d) (fun lb ls st h => Wp d 37 lb ls st h R) R k_X5_digitsDue_5 ls st h := Wp_u t_X5_digitsDue rfl
theorem u_X5_digitsDue_6 {d : Nat} {ls : qL} {st : List qV} {h : qH} {R : qR} : Wp d 37 6 ls st h R ↔ qB (qdn Wp d) (fun lb ls st h => Wp d 37 lb ls st h R) R k_X5_digitsDue_6 ls st h := Wp_u t_X5_digitsDue rfl
set_option maxRecDepth 10000 in
theorem t_X5_firstFault : qnth qTab 38 [] = kk_X5_firstFault := rfl
theorem u_X5_firstFault_0 {d : Nat} {ls : qL} {st : List qV} {h : qH} {R : qR} : Wp d 38 0 ls st h R ↔ qB (qdn Wp d) (fun lb ls st h => Wp d 38 lb ls st h R) R k_X5_firstFault_0 ls st h := Wp_u t_X5_firstFault rfl
theorem u_X5_firstFault_1 {d : Nat} {ls : qL} {st : List qV} {h : qH} {R : qR} : Wp d 38 1 ls st h R ↔ qB (qdn Wp d) (fun lb ls st h => Wp d 38 lb ls st h R) R k_X5_firstFault_1 ls st h := Wp_u t_X5_firstFault rfl
theorem u_X5_firstFault_2 {d : Nat} {ls : qL} {st : List qV} {h : qH} {R : qR} : Wp d 38 2 ls st h R ↔ qB (qdn Wp d) (fun lb ls st h => Wp d 38 lb ls st h R) R k_X5_firstFault_2 ls st h := Wp_u t_X5_firstFault rfl
theorem u_X5_firstFault_3 {d : Nat} {ls : qL} {st : List qV} {h : qH} {R : qR} : Wp d 38 3 ls st h R ↔ qB (qdn Wp d) (fun lb ls st h => Wp d 38 lb ls st h R) R k_X5_firstFault_3 ls st h := Wp_u t_X5_firstFault rfl
theorem u_X5_firstFault_4 {d : Nat} {ls : qL} {st : List qV} {h : qH} {R : qR} : Wp d 38 4 ls st h R ↔ qB (qdn Wp d) (fun lb ls st h => Wp d 38 lb ls st h R) R k_X5_firstFault_4 ls st h := Wp_u t_X5_firstFault rfl
theorem u_X5_firstFault_5 {d : Nat} {ls : qL} {st : List qV} {h : qH} {R : qR} : Wp d 38 5 ls st h R ↔ qB (qdn Wp d) (fun lb ls st h => Wp d 38 lb ls st h R) R k_X5_firstFault_5 ls st h := Wp_u t_X5_firstFault rfl
theorem u_X5_firstFault_6 {d : Nat} {ls : qL} {st : List qV} {h : qH} {R : qR} : Wp d 38 6 ls st h R ↔ qB (qdn Wp d) (fun lb ls st h => Wp d 38 lb ls st h R) R k_X5_firstFault_6 ls st h := Wp_u t_X5_firstFault rfl
theorem u_X5_firstFault_7 {d : Nat} {ls : qL} {st : List qV} {h : qH} {R : qR} : Wp d 38 7 ls st h R ↔ qB (qdn Wp d) (fun lb ls st h => Wp d 38 lb ls st h R) R k_X5_firstFault_7 ls st h := Wp_u t_X5_firstFault rfl
theorem u_X5_firstFault_8 {d : Nat} {ls : qL} {st : List qV} {h : qH} {R : qR} : Wp d 38 8 ls st h R ↔ qB (qdn Wp d) (fun lb ls st h => Wp d 38 lb ls st h R) R k_X5_firstFault_8 ls st h := Wp_u t_X5_firstFault rfl
theorem u_X5_firstFault_9 {d : Nat} {ls : qL} {st : List qV} {h : qH} {R : qR} : Wp d 38 9 ls st h R ↔ qB (qdn Wp d) (fun lb ls st h => Wp d 38 lb ls st h R) R k_X5_firstFault_9 ls st h := Wp_u t_X5_firstFault rfl
theorem u_X5_firstFault_10 {d : Nat} {ls : qL} {st : List qV} {h : qH} {R : qR} : Wp d 38 10 ls st h R ↔ qB (qdn Wp d) (fun lb ls st h => Wp d 38 lb ls st h R) R k_X5_firstFault_10 ls st h := Wp_u t_X5_firstFault rfl
set_option maxRecDepth 10000 in
theorem t_X5_clauseBehind : qnth qTab 39 [] = kk_X5_clauseBehind := rfl
theorem u_X5_clauseBehind_0 {d : Nat} {ls : qL} {st : List qV} {h : qH} {R : qR} : Wp d 39 0 ls st h R ↔ qB (qdn Wp d) (fun lb ls st h => Wp d 39 lb ls st h R) R k_X5_clauseBehind_0 ls st h := Wp_u t_X5_clauseBehind rfl
theorem u_X5_clauseBehind_1 {d : Nat} {ls : qL} {st : List qV} {h : qH} {R : qR} : Wp d 39 1 ls st h R ↔ qB (qdn Wp d) (fun lb ls st h => Wp d 39 lb ls st h R) R k_X5_clauseBehind_1 ls st h := Wp_u t_X5_clauseBehind rfl
theorem u_X5_clauseBehind_2 {d : Nat} {ls : qL} {st : List qV} {h : qH} {R : qR} : Wp d 39 2 ls st h R ↔ qB (qdn Wp d) (fun lb ls st h => Wp d 39 lb ls st h R) R k_X5_clauseBehind_2 ls st h := Wp_u t_X5_clauseBehind rfl
theorem u_X5_clauseBehind_3 {d : Nat} {ls : qL} {st : List qV} {h : qH} {R : qR} : Wp d 39 3 ls st h R ↔ qB (qdn Wp d) (fun lb ls st h => Wp d 39 lb ls st h R) R k_X5_clauseBehind_3 ls st h := Wp_u t_X5_clauseBehind rfl
set_option maxRecDepth 10000 in
theorem t_X6_at : qnth qTab 40 [] = kk_X6_at := rfl
theorem u_X6_at_0 {d : Nat} {ls : qL} {st : List qV} {h : qH} {R : qR} : Wp d 40 0 ls st h R ↔ qB (qdn Wp d) (fun lb ls st h => Wp d 40 lb ls st h R) R k_X6_at_0 ls st h := Wp_u t_X6_at rfl
theorem u_X6_at_1 {d : Nat} {ls : qL} {st : List qV} {h : qH} {R : qR} : Wp d 40 1 ls st h R ↔ qB (qdn Wp d) (fun lb ls st h => Wp d 40 lb ls st h R) R k_X6_at_1 ls st h := Wp_u t_X6_at rfl
theorem u_X6_at_2 {d : Nat} {ls : qL} {st : List qV} {h : qH} {R : qR} : Wp d 40 2 ls st h R ↔ qB (qdn Wp d) (fun lb ls st h => Wp d 40 lb ls st h R) R k_X6_at_2 ls st h := Wp_u t_X6_at rfl
set_option maxRecDepth 10000 in
theorem t_X6_put : qnth qTab 41 [] = kk_X6_put := rfl
theorem u_X6_put_0 {d : Nat} {ls : qL} {st : List qV} {h : qH} {R : qR} : Wp d 41 0 ls st h R ↔ qB (qdn Wp d) (fun lb ls st h => Wp d 41 lb ls st h R) R k_X6_put_0 ls st h := Wp_u t_X6_put rfl
theorem u_X6_put_1 {d : Nat} {ls : qL} {st : List qV} {h : qH} {R : qR} : Wp d 41 1 ls st h R ↔ qB (qdn Wp d) (fun lb ls st h => Wp d 41 lb ls st h R) R k_X6_put_1 ls st h := Wp_u t_X6_put rfl
theorem u_X6_put_2 {d : Nat} {ls : qL} {st : List qV} {h : qH} {R : qR} : Wp d 41 2 ls st h R ↔ qB (qdn Wp d) (fun lb ls st h => Wp d 41 lb ls st h R) R k_X6_put_2 ls st h := Wp_u t_X6_put rfl
set_option maxRecDepth 10000 in
theorem t_X6_ofPlate : qnth qTab 42 [] = kk_X6_ofPlate := rfl
theorem u_X6_ofPlate_0 {d : Nat} {ls : qL} {st : List qV} {h : qH} {R : qR} : Wp d 42 0 ls st h R ↔ qB (qdn Wp d) (fun lb ls st h => Wp d 42 lb ls st h R) R k_X6_ofPlate_0 ls st h := Wp_u t_X6_ofPlate rfl
set_option maxRecDepth 10000 in
theorem t_X6_layParts : qnth qTab 43 [] = kk_X6_layParts := rfl
theorem u_X6_layParts_0 {d : Nat} {ls : qL} {st : List qV} {h : qH} {R : qR} : Wp d 43 0 ls st h R ↔ qB (qdn Wp d) (fun lb ls st h => Wp d 43 lb ls st h R) R k_X6_layParts_0 ls st h := Wp_u t_X6_layParts rfl
theorem u_X6_layParts_1 {d : Nat} {ls : qL} {st : List qV} {h : qH} {R : qR} : Wp d 43 1 ls st h R ↔ qB (qdn Wp d) (fun lb ls st h => Wp d 43 lb ls st h R) R k_X6_layParts_1 ls st h := Wp_u t_X6_layParts rfl
theorem u_X6_layParts_2 {d : Nat} {ls : qL} {st : List qV} {h : qH} {R : qR} : Wp d 43 2 ls st h R ↔ qB (qdn Wp d) (fun lb ls st h => Wp d 43 lb ls st h R) R k_X6_layParts_2 ls st h := Wp_u t_X6_layParts rfl
theorem u_X6_layParts_3 {d : Nat} {ls : qL} {st : List qV} {h : qH} {R : qR} : Wp d 43 3 ls st h R ↔ qB (qdn Wp d) (fun lb ls st h => Wp d 43 lb ls st h R) R k_X6_layParts_3 ls st h := Wp_u t_X6_layParts rfl
theorem u_X6_layParts_4 {d : Nat} {ls : qL} {st : List qV} {h : qH} {R : qR} : Wp d 43 4 ls st h R ↔ qB (qdn Wp d) (fun lb ls st h => Wp d 43 lb ls st h R) R k_X6_layParts_4 ls st h := Wp_u t_X6_layParts rfl
set_option maxRecDepth 10000 in
theorem t_X6_layPartsOfSize : qnth qTab 44 [] = kk_X6_layPartsOfSize := rfl
theorem u_X6_layPartsOfSize_0 {d : Nat} {ls : qL} {st : List qV} {h : qH} {R : qR} : Wp d 44 0 ls st h R ↔ qB (qdn Wp d) (fun lb ls st h => Wp d 44 lb ls st h R) R k_X6_layPartsOfSize_0 ls st h := Wp_u t_X6_layPartsOfSize rfl
theorem u_X6_layPartsOfSize_1 {d : Nat} {ls : qL} {st : List qV} {h : qH} {R : qR} : Wp d 44 1 ls st h R ↔ qB (qdn Wp d) (fun lb ls st h => Wp d 44 lb ls st h R) R k_X6_layPartsOfSize_1 ls st h := Wp_u t_X6_layPartsOfSize rfl
theorem u_X6_layPartsOfSize_2 {d : Nat} {ls : qL} {st : List qV} {h : qH} {R : qR} : Wp d 44 2 ls st h R ↔ qB (qdn Wp d) (fun lb ls st h => Wp d 44 lb ls st h R) R k_X6_layPartsOfSize_2 ls st h := Wp_u t_X6_layPartsOfSize rfl
theorem u_X6_layPartsOfSize_3 {d : Nat} {ls : qL} {st : List qV} {h : qH} {R : qR} : Wp d 44 3 ls st h R ↔ qB (qdn Wp d) (fun lb ls st h => Wp d 44 lb ls st h R) R k_X6_layPartsOfSize_3 ls st h := Wp_u t_X6_layPartsOfSize rfl
theorem u_X6_layPartsOfSize_4 {d : Nat} {ls : qL} {st : List qV} {h : qH} {R : qR} : Wp d 44 4 ls st h R ↔ qB (qdn Wp d) (fun lb ls st h => Wp d 44 lb ls st h R) R k_X6_layPartsOfSize_4 ls st h := Wp_u t_X6_layPartsOfSize rfl
theorem u_X6_layPartsOfSize_5 {d : Nat} {ls : qL} {st : List qV} {h : qH} {R : qR} : Wp d 44 5 ls st h R ↔ qB (qdn Wp d) (fun lb ls st h => Wp d 44 lb ls st h R) R k_X6_layPartsOfSize_5 ls st h := Wp_u t_X6_layPartsOfSize rfl
theorem u_X6_layPartsOfSize_6 {d : Nat} {ls : qL} {st : List qV} {h : qH} {R : qR} : Wp d 44 6 ls st h R ↔ qB (qdn Wp d) (fun lb ls st h => Wp d 44 lb ls st h R) R k_X6_layPartsOfSize_6 ls st h := Wp_u t_X6_layPartsOfSize rfl
set_option maxRecDepth 10000 in
theorem t_X6_cutAll : qnth qTab 45 [] = kk_X6_cutAll := rfl
theorem u_X6_cutAll_0 {d : Nat} {ls : qL} {st : List qV} {h : qH} {R : qR} : Wp d 45 0 ls st h R ↔ qB (qdn Wp d) (fun lb ls st h => Wp d 45 lb ls st h R) R k_X6_cutAll_0 ls st h := Wp_u t_X6_cutAll rfl
theorem u_X6_cutAll_1 {d : Nat} {ls : qL} {st : List qV} {h : qH} {R : qR} : Wp d 45 1 ls st h R ↔ qB (qdn Wp d) (fun lb ls st h => Wp d 45 lb ls st h R) R k_X6_cutAll_1 ls st h := Wp_u t_X6_cutAll rfl
theorem u_X6_cutAll_2 {d : Nat} {ls : qL} {st : List qV} {h : qH} {R : qR} : Wp d 45 2 ls st h R ↔ qB (qdn Wp d) (fun lb ls st h => Wp d 45 lb ls st h R) R k_X6_cutAll_2 ls st h := Wp_u t_X6_cutAll rfl
theorem u_X6_cutAll_3 {d : Nat} {ls : qL} {st : List qV} {h : qH} {R : qR} : Wp d 45 3 ls st h R ↔ qB (qdn Wp d) (fun lb ls st h => Wp d 45 lb ls st h R) R k_X6_cutAll_3 ls st h := Wp_u t_X6_cutAll rfl
theorem u_X6_cutAll_4 {d : Nat} {ls : qL} {st : List qV} {h : qH} {R : qR} : Wp d 45 4 ls st h R ↔ qB (qdn Wp d) (fun lb ls st h => Wp d 45 lb ls st h R) R k_X6_cutAll_4 ls st h := Wp_u t_X6_cutAll rfl
set_option maxRecDepth 10000 in
theorem t_X6_cutAllOfSize : qnth qTab 46 [] = kk_X6_cutAllOfSize := rfl
theorem u_X6_cutAllOfSize_0 {d : Nat} {ls : qL} {st : List qV} {h : qH} {R : qR} : Wp d 46 0 ls st h R ↔ qB (qdn Wp d) (fun lb ls st h => Wp d 46 lb ls st h R) R k_X6_cutAllOfSize_0 ls st h := Wp_u t_X6_cutAllOfSize rfl
theorem u_X6_cutAllOfSize_1 {d : Nat} {ls : qL} {st : List qV} {h : qH} {R : qR} : Wp d 46 1 ls st h R ↔ qB (qdn Wp d) (fun lb ls st h => Wp d 46 lb ls st h R) R k_X6_cutAllOfSize_1 ls st h := Wp_u t_X6_cutAllOfSize rfl
theorem u_X6_cutAllOfSize_2 {d : Nat} {ls : qL} {st : List qV} {h : qH} {R : qR} : Wp d 46 2 ls st h R ↔ qB (qdn Wp d) (fun lb ls st h => Wp d 46 lb ls st h R) R k_X6_cutAllOfSize_2 ls st h := Wp_u t_X6_cutAllOfSize rfl
theorem u_X6_cutAllOfSize_3 {d : Nat} {ls : qL} {st : List qV} {h : qH} {R : qR} : Wp d 46 3 ls st h R ↔ qB (qdn Wp d) (fun lb ls st h => Wp d 46 lb ls st h R) R k_X6_cutAllOfSize_3 ls st h := Wp_u t_X6_cutAllOfSize rfl
theorem u_X6_cutAllOfSize_4 {d : Nat} {ls : qL} {st : List qV} {h : qH} {R : qR} : Wp d 46 4 ls st h R ↔ qB (qdn Wp d) (fun lb ls st h => Wp d 46 lb ls st h R) R k_X6_cutAllOfSize_4 ls st h := Wp_u t_X6_cutAllOfSize rfl
theorem u_X6_cutAllOfSize_5 {d : Nat} {ls : qL} {st : List qV} {h : qH} {R : qR} : Wp d 46 5 ls st h R ↔ qB (qdn Wp d) (fun lb ls st h => Wp d 46 lb ls st h R) R k_X6_cutAllOfSize_5 ls st h := Wp_u t_X6_cutAllOfSize rfl
theorem u_X6_cutAllOfSize_6 {d : Nat} {ls : qL} {st : List qV} {h : qH} {R : qR} : Wp d 46 6 ls st h R ↔ qB (qdn Wp d) (fun lb ls st h => Wp d 46 lb ls st h R) R k_X6_cutAllOfSize_6 ls st h := Wp_u t_X6_cutAllOfSize rfl
theorem u_X6_cutAllOfSize_7 {d : Nat} {ls : qL} {st : List qV} {h : qH} {R : qR} : Wp d 46 7 ls st h R ↔ qB (qdn Wp d) (fun lb ls st h => Wp d 46 lb ls st h R) R k_X6_cutAllOfSize_7 ls st h := Wp_u t_X6_cutAllOfSize rfl
set_option maxRecDepth 10000 in
theorem t_X6_cutOrNot : qnth qTab 47 [] = kk_X6_cutOrNot := rfl
theorem u_X6_cutOrNot_0 {d : Nat} {ls : qL} {st : List qV} {h : qH} {R : qR} : Wp d 47 0 ls st h R ↔ qB (qdn Wp d) (fun lb ls st h => Wp d 47 lb ls st h R) R k_X6_cutOrNot_0 ls st h := Wp_u t_X6_cutOrNot rfl
theorem u_X6_cutOrNot_1 {d : Nat} {ls : qL} {st : List qV} {h : qH} {R : qR} : Wp d 47 1 ls st h R ↔ qB (qdn Wp d) (fun lb ls st h => Wp d 47 lb ls st h R) R k_X6_cutOrNot_1 ls st h := Wp_u t_X6_cutOrNot rfl
theorem u_X6_cutOrNot_2 {d : Nat} {ls : qL} {st : List qV} {h : qH} {R : qR} : Wp d 47 2 ls st h R ↔ qB (qdn Wp d) (fun lb ls st h => Wp d 47 lb ls st h R) R k_X6_cutOrNot_2 ls st h := Wp_u t_X6_cutOrNot rfl
theorem u_X6_cutOrNot_3 {d : Nat} {ls : qL} {st : List qV} {h : qH} {R : qR} : Wp d 47 3 ls st h R ↔ qB (qdn Wp d) (fun lb ls st h => Wp d 47 lb ls st h R) R k_X6_cutOrNot_3 ls st h := Wp_u t_X6_cutOrNot rfl
theorem u_X6_cutOrNot_4 {d : Nat} {ls : qL} {st : List qV} {h : qH} {R : qR} : Wp d 47 4 ls st h R ↔ qB (qdn Wp d) (fun lb ls st h => Wp d 47 lb ls st h R) R k_X6_cutOrNot_4 ls st h := Wp_u t_X6_cutOrNot rfl
set_option maxRecDepth 10000 in
theorem t_X6_together : qnth qTab 48 [] = kk_X6_together := rfl
theorem u_X6_together_0 {d : Nat} {ls : qL} {st : List qV} {h : qH} {R : qR} : Wp d 48 0 ls st h R ↔ qB (qdn Wp d) (fun lb ls st h => Wp d 48 lb ls st h R) R k_X6_together_0 ls st h := Wp_u t_X6_together rfl
theorem u_X6_together_1 {d : Nat} {ls : qL} {st : List qV} {h : qH} {R : qR} : Wp d 48 1 ls st h R ↔ qB (qdn Wp d) (fun lb ls st h => Wp d 48 lb ls st h R) R k_X6_together_1 ls st h := Wp_u t_X6_together rfl
set_option maxRecDepth 10000 in
theorem t_X6_leastCut : qnth qTab 49 [] = kk_X6_leastCut := rfl
theorem u_X6_leastCut_0 {d : Nat} {ls : qL} {st : List qV} {h : qH} {R : qR} : Wp d 49 0 ls st h R ↔ qB (qdn Wp d) (fun lb ls st h => Wp d 49 lb ls st h R) R k_X6_leastCut_0 ls st h := Wp_u t_X6_leastCut rfl
theorem u_X6_leastCut_1 {d : Nat} {ls : qL} {st : List qV} {h : qH} {R : qR} : Wp d 49 1 ls st h R ↔ qB (qdn Wp d) (fun lb ls st h => Wp d 49 lb ls st h R) R k_X6_leastCut_1 ls st h := Wp_u t_X6_leastCut rfl
theorem u_X6_leastCut_2 {d : Nat} {ls : qL} {st : List qV} {h : qH} {R : qR} : Wp d 49 2 ls st h R ↔ qB (qdn Wp d) (fun lb ls st h => Wp d 49 lb ls st h R) R k_X6_leastCut_2 ls st h := Wp_u t_X6_leastCut rfl
theorem u_X6_leastCut_3 {d : Nat} {ls : qL} {st : List qV} {h : qH} {R : qR} : Wp d 49 3 ls st h R ↔ qB (qdn Wp d) (fun lb ls st h => Wp d 49 lb ls st h R) R k_X6_leastCut_3 ls st h := Wp_u t_X6_leastCut rfl
theorem u_X6_leastCut_4 {d : Nat} {ls : qL} {st : List qV} {h : qH} {R : qR} : Wp d 49 4 ls st h R ↔ qB (qdn Wp d) (fun lb ls st h => Wp d 49 lb ls st h R) R k_X6_leastCut_4 ls st h := Wp_u t_X6_leastCut rfl
theorem u_X6_leastCut_5 {d : Nat} {ls : qL} {st : List qV} {h : qH} {R : qR} : Wp d 49 5 ls st h R ↔ qB (qdn Wp d) (fun lb ls st h => Wp d 49 lb ls st h R) R k_X6_leastCut_5 ls st h := Wp_u t_X6_leastCut rfl
set_option maxRecDepth 10000 in
theorem t_X7_plate : qnth qTab 50 [] = kk_X7_plate := rfl
theorem u_X7_plate_0 {d : Nat} {ls : qL} {st : List qV} {h : qH} {R : qR} : Wp d 50 0 ls st h R ↔ qB (qdn Wp d) (fun lb ls st h => Wp d 50 lb ls st h R) R k_X7_plate_0 ls st h := Wp_u t_X7_plate rfl
theorem u_X7_plate_1 {d : Nat} {ls : qL} {st : List qV} {h : qH} {R : qR} : Wp d 50 1 ls st h R ↔ qB (qdn Wp d) (fun lb ls st h => Wp d 50 lb ls st h R) R k_X7_plate_1 ls st h := Wp_u t_X7_plate rfl
theorem u_X7_plate_2 {d : Nat} {ls : qL} {st : List qV} {h : qH} {R : qR} : Wp d 50 2 ls st h R ↔ qB (qdn Wp d) (fun lb ls st h => Wp d 50 lb ls st h R) R k_X7_plate_2 ls st h := Wp_u t_X7_plate rfl
set_option maxRecDepth 10000 in
theorem t_X7_kerf : qnth qTab 51 [] = kk_X7_kerf := rfl
theorem u_X7_kerf_0 {d : Nat} {ls : qL} {st : List qV} {h : qH} {R : qR} : Wp d 51 0 ls st h R ↔ qB (qdn Wp d) (fun lb ls st h => Wp d 51 lb ls st h R) R k_X7_kerf_0 ls st h := Wp_u t_X7_kerf rfl
theorem u_X7_kerf_1 {d : Nat} {ls : qL} {st : List qV} {h : qH} {R : qR} : Wp d 51 1 ls st h R ↔ qB (qdn Wp d) (fun lb ls st h => Wp d 51 lb ls st h R) R k_X7_kerf_1 ls st h := Wp_u t_X7_kerf rfl
theorem u_X7_kerf_2 {d : Nat} {ls : qL} {st : List qV} {h : qH} {R : qR} : Wp d 51 2 ls st h R ↔ qB (qdn Wp d) (fun lb ls st h => Wp d 51 lb ls st h R) R k_X7_kerf_2 ls st h := Wp_u t_X7_kerf rfl
set_option maxRecDepth 10000 in
theorem t_X7_part : qnth qTab 52 [] = kk_X7_part := rfl
theorem u_X7_part_0 {d : Nat} {ls : qL} {st : List qV} {h : qH} {R : qR} : Wp d 52 0 ls st h R ↔ qB (qdn Wp d) (fun lb ls st h => Wp d 52 lb ls st h R) R k_X7_part_0 ls st h := Wp_u t_X7_part rfl
theorem u_X7_part_1 {d : Nat} {ls : qL} {st : List qV} {h : qH} {R : qR} : Wp d 52 1 ls st h R ↔ qB (qdn Wp d) (fun lb ls st h => Wp d 52 lb ls st h R) R k_X7_part_1 ls st h := Wp_u t_X7_part rfl
theorem u_X7_part_2 {d : Nat} {ls : qL} {st : List qV} {h : qH} {R : qR} : Wp d 52 2 ls st h R ↔ qB (qdn Wp d) (fun lb ls st h => Wp d 52 lb ls st h R) R k_X7_part_2 ls st h := Wp_u t_X7_part rfl
theorem u_X7_part_3 {d : Nat} {ls : qL} {st : List qV} {h : qH} {R : qR} : Wp d 52 3 ls st h R ↔ qB (qdn Wp d) (fun lb ls st h => Wp d 52 lb ls st h R) R k_X7_part_3 ls st h := Wp_u t_X7_part rfl
theorem u_X7_part_4 {d : Nat} {ls : qL} {st : List qV} {h : qH} {R : qR} : Wp d 52 4 ls st h R ↔ qB (qdn Wp d) (fun lb ls st h => Wp d 52 lb ls st h R) R k_X7_part_4 ls st h := Wp_u t_X7_part rfl
theorem u_X7_part_5 {d : Nat} {ls : qL} {st : List qV} {h : qH} {R : qR} : Wp d 52 5 ls st h R ↔ qB (qdn Wp d) (fun lb ls st h => Wp d 52 lb ls st h R) R k_X7_part_5 ls st h := Wp_u t_X7_part rfl
set_option maxRecDepth 10000 in
theorem t_X7_renew : qnth qTab 53 [] = kk_X7_renew := rfl
theorem u_X7_renew_0 {d : Nat} {ls : qL} {st : List qV} {h : qH} {R : qR} : Wp d 53 0 ls st h R ↔ qB (qdn Wp d) (fun lb ls st h => Wp d 53 lb ls st h R) R k_X7_renew_0 ls st h := Wp_u t_X7_renew rfl
theorem u_X7_renew_1 {d : Nat} {ls : qL} {st : List qV} {h : qH} {R : qR} : Wp d 53 1 ls st h R ↔ qB (qdn Wp d) (fun lb ls st h => Wp d 53 lb ls st h R) R k_X7_renew_1 ls st h := Wp_u t_X7_renew rfl
theorem u_X7_renew_2 {d : Nat} {ls : qL} {st : List qV} {h : qH} {R : qR} : Wp d 53 2 ls st h R ↔ qB (qdn Wp d) (fun lb ls st h => Wp d 53 lb ls st h R) R k_X7_renew_2 ls st h := Wp_u t_X7_renew rfl
theorem u_X7_renew_3 {d : Nat} {ls : qL} {st : List qV} {h : qH} {R : qR} : Wp d 53 3 ls st h R ↔ qB (qdn Wp d) (fun lb ls st h => Wp d 53 lb ls st h R) R k_X7_renew_3 ls st h := Wp_u t_X7_renew rfl
theorem u_X7_renew_4 {d : Nat} {ls : qL} {st : List qV} {h : qH} {R : qR} : Wp d 53 4 ls st h R ↔ qB (qdn Wp d) (fun lb ls st h => Wp d 53 lb ls st h R) R k_X7_renew_4 ls st h := Wp_u t_X7_renew rfl
theorem u_X7_renew_5 {d : Nat} {ls : qL} {st : List qV} {h : qH} {R : qR} : Wp d 53 5 ls st h R ↔ qB (qdn Wp d) (fun lb ls st h => Wp d 53 lb ls st h R) R k_X7_renew_5 ls st h := Wp_u t_X7_renew rfl
set_option maxRecDepth 10000 in
theorem t_X7_turn : qnth qTab 54 [] = kk_X7_turn := rfl
theorem u_X7_turn_0 {d : Nat} {ls : qL} {st : List qV} {h : qH} {R : qR} : Wp d 54 0 ls st h R ↔ qB (qdn Wp d) (fun lb ls st h => Wp d 54 lb ls st h R) R k_X7_turn_0 ls st h := Wp_u t_X7_turn rfl
theorem u_X7_turn_1 {d : Nat} {ls : qL} {st : List qV} {h : qH} {R : qR} : Wp d 54 1 ls st h R ↔ qB (qdn Wp d) (fun lb ls st h => Wp d 54 lb ls st h R) R k_X7_turn_1 ls st h := Wp_u t_X7_turn rfl
theorem u_X7_turn_2 {d : Nat} {ls : qL} {st : List qV} {h : qH} {R : qR} : Wp d 54 2 ls st h R ↔ qB (qdn Wp d) (fun lb ls st h => Wp d 54 lb ls st h R) R k_X7_turn_2 ls st h := Wp_u t_X7_turn rfl
theorem u_X7_turn_3 {d : Nat} {ls : qL} {st : List qV} {h : qH} {R : qR} : Wp d 54 3 ls st h R ↔ qB (qdn Wp d) (fun lb ls st h => Wp d 54 lb ls st h R) R k_X7_turn_3 ls st h := Wp_u t_X7_turn rfl
set_option maxRecDepth 10000 in
theorem t_X7_of : qnth qTab 55 [] = kk_X7_of := rfl
theorem u_X7_of_0 {d : Nat} {ls : qL} {st : List qV} {h : qH} {R : qR} : Wp d 55 0 ls st h R ↔ qB (qdn Wp d) (fun lb ls st h => Wp d 55 lb ls st h R) R k_X7_of_0 ls st h := Wp_u t_X7_of rfl
theorem u_X7_of_1 {d : Nat} {ls : qL} {st : List qV} {h : qH} {R : qR} : Wp d 55 1 ls st h R ↔ qB (qdn Wp d) (fun lb ls st h => Wp d 55 lb ls st h R) R k_X7_of_1 ls st h := Wp_u t_X7_of rfl
theorem u_X7_of_2 {d : Nat} {ls : qL} {st : List qV} {h : qH} {R : qR} : Wp d 55 2 ls st h R ↔ qB (qdn Wp d) (fun lb ls st h => Wp d 55 lb ls st h R) R k_X7_of_2 ls st h := Wp_u t_X7_of rfl
theorem u_X7_of_3 {d : Nat} {ls : qL} {st : List qV} {h : qH} {R : qR} : Wp d 55 3 ls st h R ↔ qB (qdn Wp d) (fun lb ls st h => Wp d 55 lb ls st h R) R k_X7_of_3 ls st h := Wp_u t_X7_of rfl
theorem u_X7_of_4 {d : Nat} {ls : qL} {st : List qV} {h : qH} {R : qR} : Wp d 55 4 ls st h R ↔ qB (qdn Wp d) (fun lb ls st h => Wp d 55 lb ls st h R) R k_X7_of_4 ls st h := Wp_u t_X7_of rfl
set_option maxRecDepth 10000 in
theorem t_X7_defect : qnth qTab 56 [] = kk_X7_defect := rfl
theorem u_X7_defect_0 {d : Nat} {ls : qL} {st : List qV} {h : qH} {R : qR} : Wp d 56 0 ls st h R ↔ qB (qdn Wp d) (fun lb ls st h => Wp d 56 lb ls st h R) R k_X7_defect_0 ls st h := Wp_u t_X7_defect rfl
theorem u_X7_defect_1 {d : Nat} {ls : qL} {st : List qV} {h : qH} {R : qR} : Wp d 56 1 ls st h R ↔ qB (qdn Wp d) (fun lb ls st h => Wp d 56 lb ls st h R) R k_X7_defect_1 ls st h := Wp_u t_X7_defect rfl
theorem u_X7_defect_2 {d : Nat} {ls : qL} {st : List qV} {h : qH} {R : qR} : Wp d 56 2 ls st h R ↔ qB (qdn Wp d) (fun lb ls st h => Wp d 56 lb ls st h R) R k_X7_defect_2 ls st h := Wp_u t_X7_defect rfl
theorem u_X7_defect_3 {d : Nat} {ls : qL} {st : List qV} {h : qH} {R : qR} : Wp d 56 3 ls st h R ↔ qB (qdn Wp d) (fun lb ls st h => Wp d 56 lb ls st h R) R k_X7_defect_3 ls st h := Wp_u t_X7_defect rfl
set_option maxRecDepth 10000 in
theorem t_X7_mend : qnth qTab 57 [] = kk_X7_mend := rfl
theorem u_X7_mend_0 {d : Nat} {ls : qL} {st : List qV} {h : qH} {R : qR} : Wp d 57 0 ls st h R ↔ qB (qdn Wp d) (fun lb ls st h => Wp d 57 lb ls st h R) R k_X7_mend_0 ls st h := Wp_u t_X7_mend rfl
set_option maxRecDepth 10000 in
theorem t_X7_feed : qnth qTab 58 [] = kk_X7_feed := rfl
theorem u_X7_feed_0 {d : Nat} {ls : qL} {st : List qV} {h : qH} {R : qR} : Wp d 58 0 ls st h R ↔ qB (qdn Wp d) (fun lb ls st h => Wp d 58 lb ls st h R) R k_X7_feed_0 ls st h := Wp_u t_X7_feed rfl
theorem u_X7_feed_1 {d : Nat} {ls : qL} {st : List qV} {h : qH} {R : qR} : Wp d 58 1 ls st h R ↔ qB (qdn Wp d) (fun lb ls st h => Wp d 58 lb ls st h R) R k_X7_feed_1 ls st h := Wp_u t_X7_feed rfl
theorem u_X7_feed_2 {d : Nat} {ls : qL} {st : List qV} {h : qH} {R : qR} : Wp d 58 2 ls st h R ↔ qB (qdn Wp d) (fun lb ls st h => Wp d 58 lb ls st h R) R k_X7_feed_2 ls st h := Wp_u t_X7_feed rfl
theorem u_X7_feed_3 {d : Nat} {ls : qL} {st : List qV} {h : qH} {R : qR} : Wp d 58 3 ls st h R ↔ qB (qdn Wp d) (fun lb ls st h => Wp d 58 lb ls st h R) R k_X7_feed_3 ls st h := Wp_u t_X7_feed rfl
theorem u_X7_feed_4 {d : Nat} {ls : qL} {st : List qV} {h : qH} {R : qR} : Wp d 58 4 ls st h R ↔ qB (qdn Wp d) (fun lb ls st h => Wp d 58 lb ls st h R) R k_X7_feed_4 ls st h := Wp_u t_X7_feed rfl
set_option maxRecDepth 10000 in
theorem t_X7_read : qnth qTab 59 [] = kk_X7_read := rfl
theorem u_X7_read_0 {d : Nat} {ls : qL} {st : List qV} {h : qH} {R : qR} : Wp d 59 0 ls st h R ↔ qB (qdn Wp d) (fun lb ls st h => Wp d 59 lb ls st h R) R k_X7_read_0 ls st h := Wp_u t_X7_read rfl
theorem u_X7_read_1 {d : Nat} {ls : qL} {st : List qV} {h : qH} {R : qR} : Wp d 59 1 ls st h R ↔ qB (qdn Wp d) (fun lb ls st h => Wp d 59 lb ls st h R) R k_X7_read_1 ls st h := Wp_u t_X7_read rfl
theorem u_X7_read_2 {d : Nat} {ls : qL} {st : List qV} {h : qH} {R : qR} : Wp d 59 2 ls st h R ↔ qB (qdn Wp d) (fun lb ls st h => Wp d 59 lb ls st h R) R k_X7_read_2 ls st h := Wp_u t_X7_read rfl
set_option maxRecDepth 10000 in
theorem t_X7_best : qnth qTab 60 [] = kk_X7_best := rfl
theorem u_X7_best_0 {d : Nat} {ls : qL} {st : List qV} {h : qH} {R : qR} : Wp d 60 0 ls st h R ↔ qB (qdn Wp d) (fun lb ls st h => Wp d 60 lb ls st h R) R k_X7_best_0 ls st h := Wp_u t_X7_best rfl
theorem u_X7_best_1 {d : Nat} {ls : qL} {st : List qV} {h : qH} {R : qR} : Wp d 60 1 ls st h R ↔ qB (qdn Wp d) (fun lb ls st h => Wp d 60 lb ls st h R) R k_X7_best_1 ls st h := Wp_u t_X7_best rfl
set_option maxRecDepth 10000 in
theorem t_X7_is : qnth qTab 61 [] = kk_X7_is := rfl
theorem u_X7_is_0 {d : Nat} {ls : qL} {st : List qV} {h : qH} {R : qR} : Wp d 61 0 ls st h R ↔ qB (qdn Wp d) (fun lb ls st h => Wp d 61 lb ls st h R) R k_X7_is_0 ls st h := Wp_u t_X7_is rfl
theorem u_X7_is_1 {d : Nat} {ls : qL} {st : List qV} {h : qH} {R : qR} : Wp d 61 1 ls st h R ↔ qB (qdn Wp d) (fun lb ls st h => Wp d 61 lb ls st h R) R k_X7_is_1 ls st h := Wp_u t_X7_is rfl
set_option maxRecDepth 10000 in
theorem t_X7_told : qnth qTab 62 [] = kk_X7_told := rfl
theorem u_X7_told_0 {d : Nat} {ls : qL} {st : List qV} {h : qH} {R : qR} : Wp d 62 0 ls st h R ↔ qB (qdn Wp d) (fun lb ls st h => Wp d 62 lb ls st h R) R k_X7_told_0 ls st h := Wp_u t_X7_told rfl
theorem u_X7_told_1 {d : Nat} {ls : qL} {st : List qV} {h : qH} {R : qR} : Wp d 62 1 ls st h R ↔ qB (qdn Wp d) (fun lb ls st h => Wp d 62 lb ls st h R) R k_X7_told_1 ls st h := Wp_u t_X7_told rfl
theorem u_X7_told_2 {d : Nat} {ls : qL} {st : List qV} {h : qH} {R : qR} : Wp d 62 2 ls st h R ↔ qB (qdn Wp d) (fun lb ls st h => Wp d 62 lb ls st h R) R k_X7_told_2 ls st h := Wp_u t_X7_told rfl
theorem u_X7_told_3 {d : Nat} {ls : qL} {st : List qV} {h : qH} {R : qR} : Wp d 62 3 ls st h R ↔ qB (qdn Wp d) (fun lb ls st h => Wp d 62 lb ls st h R) R k_X7_told_3 ls st h := Wp_u t_X7_told rfl
theorem u_X7_told_4 {d : Nat} {ls : qL} {st : List qV} {h : qH} {R : qR} : Wp d 62 4 ls st h R ↔ qB (qdn Wp d) (fun lb ls st h => Wp d 62 lb ls st h R) R k_X7_told_4 ls st h := Wp_u t_X7_told rfl
theorem u_X7_told_5 {d : Nat} {ls : qL} {st : List qV} {h : qH} {R : qR} : Wp d 62 5 ls st h R ↔ qB (qdn Wp d) (fun lb ls st h => Wp d 62 lb ls st h R) R k_X7_told_5 ls st h := Wp_u t_X7_told rfl
theorem u_X7_told_6 {d : Nat} {ls : qL} {st : List qV} {h : qH} {R : qR} : Wp d 62 6 ls st h R ↔ qB (qdn Wp d) (fun lb ls st h => Wp d 62 lb ls st h R) R k_X7_told_6 ls st h := Wp_u t_X7_told rfl
theorem u_X7_told_7 {d : Nat} {ls : qL} {st : List qV} {h : qH} {R : qR} : Wp d 62 7 ls st h R ↔ qB (qdn Wp d) (fun lb ls st h => Wp d 62 lb ls st h R) R k_X7_told_7 ls st h := Wp_u t_X7_told rfl
theorem u_X7_told_8 {d : Nat} {ls : qL} {st : List qV} {h : qH} {R : qR} : Wp d 62 8 ls st h R ↔ qB (qdn Wp d) (fun lb ls st h => Wp d 62 lb ls st h R) R k_X7_told_8 ls st h := Wp_u t_X7_told rfl
theorem u_X7_told_9 {d : Nat} {ls : qL} {st : List qV} {h : qH} {R : qR} : Wp d 62 9 ls st h R ↔ qB (qdn Wp d) (fun lb ls st h => Wp d 62 lb ls st h R) R k_X7_told_9 ls st h := Wp_u t_X7_told rfl
theorem u_X7_told_10 {d : Nat} {ls : qL} {st : List qV} {h : qH} {R : qR} : Wp d 62 10 ls st h R ↔ qB (qdn Wp d) (fun lb ls st h => Wp d 62 lb ls st h R) R k_X7_told_10 ls st h := Wp_u t_X7_told rfl
theorem u_X7_told_11 {d : Nat} {ls : qL} {st : List qV} {h : qH} {R : qR} : Wp d 62 11 ls st h R ↔ qB (qdn Wp d) (fun lb ls st h => Wp d 62 lb ls st h R) R k_X7_told_11 ls st h := Wp_u t_X7_told rfl
theorem u_X7_told_12 {d : Nat} {ls : qL} {st : List qV} {h : qH} {R : qR} : Wp d 62 12 ls st h R ↔ qB (qdn Wp d) (fun lb ls st h => Wp d 62 lb ls st h R) R k_X7_told_12 ls st h := Wp_u t_X7_told rfl
set_option maxRecDepth 10000 in
theorem t_X7_node : qnth qTab 63 [] = kk_X7_node := rfl
theorem u_X7_node_0 {d : Nat} {ls : qL} {st : List qV} {h : qH} {R : qR} : Wp d 63 0 ls st h R ↔ qB (qdn Wp d) (fun lb ls st h => Wp d 63 lb ls st h R) R k_X7_node_0 ls st h := Wp_u t_X7_node rfl
set_option maxRecDepth 10000 in
theorem t_X7_picture : qnth qTab 64 [] = kk_X7_picture := rfl
theorem u_X7_picture_0 {d : Nat} {ls : qL} {st : List qV} {h : qH} {R : qR} : Wp d 64 0 ls st h R ↔ qB (qdn Wp d) (fun lb ls st h => Wp d 64 lb ls st h R) R k_X7_picture_0 ls st h := Wp_u t_X7_picture rfl
theorem u_X7_picture_1 {d : Nat} {ls : qL} {st : List qV} {h : qH} {R : qR} : Wp d 64 1 ls st h R ↔ qB (qdn Wp d) (fun lb ls st h => Wp d 64 lb ls st h R) R k_X7_picture_1 ls st h := Wp_u t_X7_picture rfl
set_option maxRecDepth 10000 in
theorem t_X7_staged : qnth qTab 65 [] = kk_X7_staged := rfl
theorem u_X7_staged_0 {d : Nat} {ls : qL} {st : List qV} {h : qH} {R : qR} : Wp d 65 0 ls st h R ↔ qB (qdn Wp d) (fun lb ls st h => Wp d 65 lb ls st h R) R k_X7_staged_0 ls st h := Wp_u t_X7_staged rfl
theorem u_X7_staged_1 {d : Nat} {ls : qL} {st : List qV} {h : qH} {R : qR} : Wp d 65 1 ls st h R ↔ qB (qdn Wp d) (fun lb ls st h => Wp d 65 lb ls st h R) R k_X7_staged_1 ls st h := Wp_u t_X7_staged rfl
theorem u_X7_staged_2 {d : Nat} {ls : qL} {st : List qV} {h : qH} {R : qR} : Wp d 65 2 ls st h R ↔ qB (qdn Wp d) (fun lb ls st h => Wp d 65 lb ls st h R) R k_X7_staged_2 ls st h := Wp_u t_X7_staged rfl
theorem u_X7_staged_3 {d : Nat} {ls : qL} {st : List qV} {h : qH} {R : qR} : Wp d 65 3 ls st h R ↔ qB (qdn Wp d) (fun lb ls st h => Wp d 65 lb ls st h R) R k_X7_staged_3 ls st h := Wp_u t_X7_staged rfl
theorem u_X7_staged_4 {d : Nat} {ls : qL} {st : List qV} {h : qH} {R : qR} : Wp d 65 4 ls st h R ↔ qB (qdn Wp d) (fun lb ls st h => Wp d 65 lb ls st h R) R k_X7_staged_4 ls st h := Wp_u t_X7_staged rfl
set_option maxRecDepth 10000 in
theorem t_X7_sizes : qnth qTab 66 [] = kk_X7_sizes := rfl
theorem u_X7_sizes_0 {d : Nat} {ls : qL} {st : List qV} {h : qH} {R : qR} : Wp d 66 0 ls st h R ↔ qB (qdn Wp d) (fun lb ls st h => Wp d 66 lb ls st h R) R k_X7_sizes_0 ls st h := Wp_u t_X7_sizes rfl
theorem u_X7_sizes_1 {d : Nat} {ls : qL} {st : List qV} {h : qH} {R : qR} : Wp d 66 1 ls st h R ↔ qB (qdn Wp d) (fun lb ls st h => Wp d 66 lb ls st h R) R k_X7_sizes_1 ls st h := Wp_u t_X7_sizes rfl
theorem u_X7_sizes_2 {d : Nat} {ls : qL} {st : List qV} {h : qH} {R : qR} : Wp d 66 2 ls st h R ↔ qB (qdn Wp d) (fun lb ls st h => Wp d 66 lb ls st h R) R k_X7_sizes_2 ls st h := Wp_u t_X7_sizes rfl
theorem u_X7_sizes_3 {d : Nat} {ls : qL} {st : List qV} {h : qH} {R : qR} : Wp d 66 3 ls st h R ↔ qB (qdn Wp d) (fun lb ls st h => Wp d 66 lb ls st h R) R k_X7_sizes_3 ls st h := Wp_u t_X7_sizes rfl
theorem u_X7_sizes_4 {d : Nat} {ls : qL} {st : List qV} {h : qH} {R : qR} : Wp d 66 4 ls st h R ↔ qB (qdn Wp d) (fun lb ls st h => Wp d 66 lb ls st h R) R k_X7_sizes_4 ls st h := Wp_u t_X7_sizes rfl
theorem u_X7_sizes_5 {d : Nat} {ls : qL} {st : List qV} {h : qH} {R : qR} : Wp d 66 5 ls st h R ↔ qB (qdn Wp d) (fun lb ls st h => Wp d 66 lb ls st h R) R k_X7_sizes_5 ls st h := Wp_u t_X7_sizes rfl
theorem u_X7_sizes_6 {d : Nat} {ls : qL} {st : List qV} {h : qH} {R : qR} : Wp d 66 6 ls st h R ↔ qB (qdn Wp d) (fun lb ls st h => Wp d 66 lb ls st h R) R k_X7_sizes_6 ls st h := Wp_u t_X7_sizes rfl
set_option maxRecDepth 10000 in
theorem t_X7_more : qnth qTab 67 [] = kk_X7_more := rfl
theorem u_X7_more_0 {d : Nat} {ls : qL} {st : List qV} {h : qH} {R : qR} : Wp d 67 0 ls st h R ↔ qB (qdn Wp d) (fun lb ls st h => Wp d 67 lb ls st h R) R k_X7_more_0 ls st h := Wp_u t_X7_more rfl
theorem u_X7_more_1 {d : Nat} {ls : qL} {st : List qV} {h : qH} {R : qR} : Wp d 67 1 ls st h R ↔ qB (qdn Wp d) (fun lb ls st h => Wp d 67 lb ls st h R) R k_X7_more_1 ls st h := Wp_u t_X7_more rfl
theorem u_X7_more_2 {d : Nat} {ls : qL} {st : List qV} {h : qH} {R : qR} : Wp d 67 2 ls st h R ↔ qB (qdn Wp d) (fun lb ls st h => Wp d 67 lb ls st h R) R k_X7_more_2 ls st h := Wp_u t_X7_more rfl
theorem u_X7_more_3 {d : Nat} {ls : qL} {st : List qV} {h : qH} {R : qR} : Wp d 67 3 ls st h R ↔ qB (qdn Wp d) (fun lb ls st h => Wp d 67 lb ls st h R) R k_X7_more_3 ls st h := Wp_u t_X7_more rfl
theorem u_X7_more_4 {d : Nat} {ls : qL} {st : List qV} {h : qH} {R : qR} : Wp d 67 4 ls st h R ↔ qB (qdn Wp d) (fun lb ls st h => Wp d 67 lb ls st h R) R k_X7_more_4 ls st h := Wp_u t_X7_more rfl
theorem u_X7_more_5 {d : Nat} {ls : qL} {st : List qV} {h : qH} {R : qR} : Wp d 67 5 ls st h R ↔ qB (qdn Wp d) (fun lb ls st h => Wp d 67 lb ls st h R) R k_X7_more_5 ls st h := Wp_u t_X7_more rfl
set_option maxRecDepth 10000 in
theorem t_X7_bound : qnth qTab 68 [] = kk_X7_bound := rfl
theorem u_X7_bound_0 {d : Nat} {ls : qL} {st : List qV} {h : qH} {R : qR} : Wp d 68 0 ls st h R ↔ qB (qdn Wp d) (fun lb ls st h => Wp d 68 lb ls st h R) R k_X7_bound_0 ls st h := Wp_u t_X7_bound rfl
theorem u_X7_bound_1 {d : Nat} {ls : qL} {st : List qV} {h : qH} {R : qR} : Wp d 68 1 ls st h R ↔ qB (qdn Wp d) (fun lb ls st h => Wp d 68 lb ls st h R) R k_X7_bound_1 ls st h := Wp_u t_X7_bound rfl
theorem u_X7_bound_2 {d : Nat} {ls : qL} {st : List qV} {h : qH} {R : qR} : Wp d 68 2 ls st h R ↔ qB (qdn Wp d) (fun lb ls st h => Wp d 68 lb ls st h R) R k_X7_bound_2 ls st h := Wp_u t_X7_bound rfl
theorem u_X7_bound_3 {d : Nat} {ls : qL} {st : List qV} {h : qH} {R : qR} : Wp d 68 3 ls st h R ↔ qB (qdn Wp d) (fun lb ls st h => Wp d 68 lb ls st h R) R k_X7_bound_3 ls st h := Wp_u t_X7_bound rfl
theorem u_X7_bound_4 {d : Nat} {ls : qL} {st : List qV} {h : qH} {R : qR} : Wp d 68 4 ls st h R ↔ qB (qdn Wp d) (fun lb ls st h => Wp d 68 lb ls st h R) R k_X7_bound_4 ls st h := Wp_u t_X7_bound rfl
theorem u_X7_bound_5 {d : Nat} {ls : qL} {st : List qV} {h : qH} {R : qR} : Wp d 68 5 ls st h R ↔ qB (qdn Wp d) (fun lb ls st h => Wp d 68 lb ls st h R) R k_X7_bound_5 ls st h := Wp_u t_X7_bound rfl
set_option maxRecDepth 10000 in
theorem t_X7_see : qnth qTab 69 [] = kk_X7_see := rfl
theorem u_X7_see_0 {d : Nat} {ls : qL} {st : List qV} {h : qH} {R : qR} : Wp d 69 0 ls st h R ↔ qB (qdn Wp d) (fun lb ls st h => Wp d 69 lb ls st h R) R k_X7_see_0 ls st h := Wp_u t_X7_see rfl
set_option maxRecDepth 10000 in
theorem t_X7_fits : qnth qTab 70 [] = kk_X7_fits := rfl
theorem u_X7_fits_0 {d : Nat} {ls : qL} {st : List qV} {h : qH} {R : qR} : Wp d 70 0 ls st h R ↔ qB (qdn Wp d) (fun lb ls st h => Wp d 70 lb ls st h R) R k_X7_fits_0 ls st h := Wp_u t_X7_fits rfl
theorem u_X7_fits_1 {d : Nat} {ls : qL} {st : List qV} {h : qH} {R : qR} : Wp d 70 1 ls st h R ↔ qB (qdn Wp d) (fun lb ls st h => Wp d 70 lb ls st h R) R k_X7_fits_1 ls st h := Wp_u t_X7_fits rfl
theorem u_X7_fits_2 {d : Nat} {ls : qL} {st : List qV} {h : qH} {R : qR} : Wp d 70 2 ls st h R ↔ qB (qdn Wp d) (fun lb ls st h => Wp d 70 lb ls st h R) R k_X7_fits_2 ls st h := Wp_u t_X7_fits rfl
theorem u_X7_fits_3 {d : Nat} {ls : qL} {st : List qV} {h : qH} {R : qR} : Wp d 70 3 ls st h R ↔ qB (qdn Wp d) (fun lb ls st h => Wp d 70 lb ls st h R) R k_X7_fits_3 ls st h := Wp_u t_X7_fits rfl
theorem u_X7_fits_4 {d : Nat} {ls : qL} {st : List qV} {h : qH} {R : qR} : Wp d 70 4 ls st h R ↔ qB (qdn Wp d) (fun lb ls st h => Wp d 70 lb ls st h R) R k_X7_fits_4 ls st h := Wp_u t_X7_fits rfl
theorem u_X7_fits_5 {d : Nat} {ls : qL} {st : List qV} {h : qH} {R : qR} : Wp d 70 5 ls st h R ↔ qB (qdn Wp d) (fun lb ls st h => Wp d 70 lb ls st h R) R k_X7_fits_5 ls st h := Wp_u t_X7_fits rfl
theorem u_X7_fits_6 {d : Nat} {ls : qL} {st : List qV} {h : qH} {R : qR} : Wp d 70 6 ls st h R ↔ qB (qdn Wp d) (fun lb ls st h => Wp d 70 lb ls st h R) R k_X7_fits_6 ls st h := Wp_u t_X7_fits rfl
theorem u_X7_fits_7 {d : Nat} {ls : qL} {st : List qV} {h : qH} {R : qR} : Wp d 70 7 ls st h R ↔ qB (qdn Wp d) (fun lb ls st h => Wp d 70 lb ls st h R) R k_X7_fits_7 ls st h := Wp_u t_X7_fits rfl
theorem u_X7_fits_8 {d : Nat} {ls : qL} {st : List qV} {h : qH} {R : qR} : Wp d 70 8 ls st h R ↔ qB (qdn Wp d) (fun lb ls st h => Wp d 70 lb ls st h R) R k_X7_fits_8 ls st h := Wp_u t_X7_fits rfl
theorem u_X7_fits_9 {d : Nat} {ls : qL} {st : List qV} {h : qH} {R : qR} : Wp d 70 9 ls st h R ↔ qB (qdn Wp d) (fun lb ls st h => Wp d 70 lb ls st h R) R k_X7_fits_9 ls st h := Wp_u t_X7_fits rfl
set_option maxRecDepth 10000 in
theorem t_X7_odds : qnth qTab 71 [] = kk_X7_odds := rfl
theorem u_X7_odds_0 {d : Nat} {ls : qL} {st : List qV} {h : qH} {R : qR} : Wp d 71 0 ls st h R ↔ qB (qdn Wp d) (fun lb ls st h => Wp d 71 lb ls st h R) R k_X7_odds_0 ls st h := Wp_u t_X7_odds rfl
theorem u_X7_odds_1 {d : Nat} {ls : qL} {st : List qV} {h : qH} {R : qR} : Wp d 71 1 ls st h R ↔ qB (qdn Wp d) (fun lb ls st h => Wp d 71 lb ls st h R) R k_X7_odds_1 ls st h := Wp_u t_X7_odds rfl
theorem u_X7_odds_2 {d : Nat} {ls : qL} {st : List qV} {h : qH} {R : qR} : Wp d 71 2 ls st h R ↔ qB (qdn Wp d) (fun lb ls st h => Wp d 71 lb ls st h R) R k_X7_odds_2 ls st h := Wp_u t_X7_odds rfl
theorem u_X7_odds_3 {d : Nat} {ls : qL} {st : List qV} {h : qH} {R : qR} : Wp d 71 3 ls st h R ↔ qB (qdn Wp d) (fun lb ls st h => Wp d 71 lb ls st h R) R k_X7_odds_3 ls st h := Wp_u t_X7_odds rfl
theorem u_X7_odds_4 {d : Nat} {ls : qL} {st : List qV} {h : qH} {R : qR} : Wp d 71 4 ls st h R ↔ qB (qdn Wp d) (fun lb ls st h => Wp d 71 lb ls st h R) R k_X7_odds_4 ls st h := Wp_u t_X7_odds rfl
theorem u_X7_odds_5 {d : Nat} {ls : qL} {st : List qV} {h : qH} {R : qR} : Wp d 71 5 ls st h R ↔ qB (qdn Wp d) (fun lb ls st h => Wp d 71 lb ls st h R) R k_X7_odds_5 ls st h := Wp_u t_X7_odds rfl
set_option maxRecDepth 10000 in
theorem t_X7_mean : qnth qTab 72 [] = kk_X7_mean := rfl
theorem u_X7_mean_0 {d : Nat} {ls : qL} {st : List qV} {h : qH} {R : qR} : Wp d 72 0 ls st h R ↔ qB (qdn Wp d) (fun lb ls st h => Wp d 72 lb ls st h R) R k_X7_mean_0 ls st h := Wp_u t_X7_mean rfl
theorem u_X7_mean_1 {d : Nat} {ls : qL} {st : List qV} {h : qH} {R : qR} : Wp d 72 1 ls st h R ↔ qB (qdn Wp d) (fun lb ls st h => Wp d 72 lb ls st h R) R k_X7_mean_1 ls st h := Wp_u t_X7_mean rfl
theorem u_X7_mean_2 {d : Nat} {ls : qL} {st : List qV} {h : qH} {R : qR} : Wp d 72 2 ls st h R ↔ qB (qdn Wp d) (fun lb ls st h => Wp d 72 lb ls st h R) R k_X7_mean_2 ls st h := Wp_u t_X7_mean rfl
set_option maxRecDepth 10000 in
theorem t_X7_event : qnth qTab 73 [] = kk_X7_event := rfl
theorem u_X7_event_0 {d : Nat} {ls : qL} {st : List qV} {h : qH} {R : qR} : Wp d 73 0 ls st h R ↔ qB (qdn Wp d) (fun lb ls st h => Wp d 73 lb ls st h R) R k_X7_event_0 ls st h := Wp_u t_X7_event rfl
theorem u_X7_event_1 {d : Nat} {ls : qL} {st : List qV} {h : qH} {R : qR} : Wp d 73 1 ls st h R ↔ qB (qdn Wp d) (fun lb ls st h => Wp d 73 lb ls st h R) R k_X7_event_1 ls st h := Wp_u t_X7_event rfl
theorem u_X7_event_2 {d : Nat} {ls : qL} {st : List qV} {h : qH} {R : qR} : Wp d 73 2 ls st h R ↔ qB (qdn Wp d) (fun lb ls st h => Wp d 73 lb ls st h R) R k_X7_event_2 ls st h := Wp_u t_X7_event rfl
theorem u_X7_event_3 {d : Nat} {ls : qL} {st : List qV} {h : qH} {R : qR} : Wp d 73 3 ls st h R ↔ qB (qdn Wp d) (fun lb ls st h => Wp d 73 lb ls st h R) R k_X7_event_3 ls st h := Wp_u t_X7_event rfl
theorem u_X7_event_4 {d : Nat} {ls : qL} {st : List qV} {h : qH} {R : qR} : Wp d 73 4 ls st h R ↔ qB (qdn Wp d) (fun lb ls st h => Wp d 73 lb ls st h R) R k_X7_event_4 ls st h := Wp_u t_X7_event rfl
theorem u_X7_event_5 {d : Nat} {ls : qL} {st : List qV} {h : qH} {R : qR} : Wp d 73 5 ls st h R ↔ qB (qdn Wp d) (fun lb ls st h => Wp d 73 lb ls st h R) R k_X7_event_5 ls st h := Wp_u t_X7_event rfl
theorem u_X7_event_6 {d : Nat} {ls : qL} {st : List qV} {h : qH} {R : qR} : Wp d 73 6 ls st h R ↔ qB (qdn Wp d) (fun lb ls st h => Wp d 73 lb ls st h R) R k_X7_event_6 ls st h := Wp_u t_X7_event rfl
set_option maxRecDepth 10000 in
theorem t_X7_after : qnth qTab 74 [] = kk_X7_after := rfl
theorem u_X7_after_0 {d : Nat} {ls : qL} {st : List qV} {h : qH} {R : qR} : Wp d 74 0 ls st h R ↔ qB (qdn Wp d) (fun lb ls st h => Wp d 74 lb ls st h R) R k_X7_after_0 ls st h := Wp_u t_X7_after rfl
theorem u_X7_after_1 {d : Nat} {ls : qL} {st : List qV} {h : qH} {R : qR} : Wp d 74 1 ls st h R ↔ qB (qdn Wp d) (fun lb ls st h => Wp d 74 lb ls st h R) R k_X7_after_1 ls st h := Wp_u t_X7_after rfl
theorem u_X7_after_2 {d : Nat} {ls : qL} {st : List qV} {h : qH} {R : qR} : Wp d 74 2 ls st h R ↔ qB (qdn Wp d) (fun lb ls st h => Wp d 74 lb ls st h R) R k_X7_after_2 ls st h := Wp_u t_X7_after rfl
theorem u_X7_after_3 {d : Nat} {ls : qL} {st : List qV} {h : qH} {R : qR} : Wp d 74 3 ls st h R ↔ qB (qdn Wp d) (fun lb ls st h => Wp d 74 lb ls st h R) R k_X7_after_3 ls st h := Wp_u t_X7_after rfl
theorem u_X7_after_4 {d : Nat} {ls : qL} {st : List qV} {h : qH} {R : qR} : Wp d 74 4 ls st h R ↔ qB (qdn Wp d) (fun lb ls st h => Wp d 74 lb ls st h R) R k_X7_after_4 ls st h := Wp_u t_X7_after rfl
theorem u_X7_after_5 {d : Nat} {ls : qL} {st : List qV} {h : qH} {R : qR} : Wp d 74 5 ls st h R ↔ qB (qdn Wp d) (fun lb ls st h => Wp d 74 lb ls st h R) R k_X7_after_5 ls st h := Wp_u t_X7_after rfl
theorem u_X7_after_6 {d : Nat} {ls : qL} {st : List qV} {h : qH} {R : qR} : Wp d 74 6 ls st h R ↔ qB (qdn Wp d) (fun lb ls st h => Wp d 74 lb ls st h R) R k_X7_after_6 ls st h := Wp_u t_X7_after rfl
theorem u_X7_after_7 {d : Nat} {ls : qL} {st : List qV} {h : qH} {R : qR} : Wp d 74 7 ls st h R ↔ qB (qdn Wp d) (fun lb ls st h => Wp d 74 lb ls st h R) R k_X7_after_7 ls st h := Wp_u t_X7_after rfl
set_option maxRecDepth 10000 in
theorem t_X7_book : qnth qTab 75 [] = kk_X7_book := rfl
theorem u_X7_book_0 {d : Nat} {ls : qL} {st : List qV} {h : qH} {R : qR} : Wp d 75 0 ls st h R ↔ qB (qdn Wp d) (fun lb ls st h => Wp d 75 lb ls st h R) R k_X7_book_0 ls st h := Wp_u t_X7_book rfl
set_option maxRecDepth 10000 in
theorem t_X7_looked : qnth qTab 76 [] = kk_X7_looked := rfl
theorem u_X7_looked_0 {d : Nat} {ls : qL} {st : List qV} {h : qH} {R : qR} : Wp d 76 0 ls st h R ↔ qB (qdn Wp d) (fun lb ls st h => Wp d 76 lb ls st h R) R k_X7_looked_0 ls st h := Wp_u t_X7_looked rfl
set_option maxRecDepth 10000 in
theorem t_X7_judge : qnth qTab 77 [] = kk_X7_judge := rfl
theorem u_X7_judge_0 {d : Nat} {ls : qL} {st : List qV} {h : qH} {R : qR} : Wp d 77 0 ls st h R ↔ qB (qdn Wp d) (fun lb ls st h => Wp d 77 lb ls st h R) R k_X7_judge_0 ls st h := Wp_u t_X7_judge rfl
theorem u_X7_judge_1 {d : Nat} {ls : qL} {st : List qV} {h : qH} {R : qR} : Wp d 77 1 ls st h R ↔ qB (qdn Wp d) (fun lb ls st h => Wp d 77 lb ls st h R) R k_X7_judge_1 ls st h := Wp_u t_X7_judge rfl
theorem u_X7_judge_2 {d : Nat} {ls : qL} {st : List qV} {h : qH} {R : qR} : Wp d 77 2 ls st h R ↔ qB (qdn Wp d) (fun lb ls st h => Wp d 77 lb ls st h R) R k_X7_judge_2 ls st h := Wp_u t_X7_judge rfl
theorem u_X7_judge_3 {d : Nat} {ls : qL} {st : List qV} {h : qH} {R : qR} : Wp d 77 3 ls st h R ↔ qB (qdn Wp d) (fun lb ls st h => Wp d 77 lb ls st h R) R k_X7_judge_3 ls st h := Wp_u t_X7_judge rfl
theorem u_X7_judge_4 {d : Nat} {ls : qL} {st : List qV} {h : qH} {R : qR} : Wp d 77 4 ls st h R ↔ qB (qdn Wp d) (fun lb ls st h => Wp d 77 lb ls st h R) R k_X7_judge_4 ls st h := Wp_u t_X7_judge rfl
theorem u_X7_judge_5 {d : Nat} {ls : qL} {st : List qV} {h : qH} {R : qR} : Wp d 77 5 ls st h R ↔ qB (qdn Wp d) (fun lb ls st h => Wp d 77 lb ls st h R) R k_X7_judge_5 ls st h := Wp_u t_X7_judge rfl
theorem u_X7_judge_6 {d : Nat} {ls : qL} {st : List qV} {h : qH} {R : qR} : Wp d 77 6 ls st h R ↔ qB (qdn Wp d) (fun lb ls st h => Wp d 77 lb ls st h R) R k_X7_judge_6 ls st h := Wp_u t_X7_judge rfl
theorem u_X7_judge_7 {d : Nat} {ls : qL} {st : List qV} {h : qH} {R : qR} : Wp d 77 7 ls st h R ↔ qB (qdn Wp d) (fun lb ls st h => Wp d 77 lb ls st h R) R k_X7_judge_7 ls st h := Wp_u t_X7_judge rfl
set_option maxRecDepth 10000 in
theorem t_X7_image : qnth qTab 78 [] = kk_X7_image := rfl
theorem u_X7_image_0 {d : Nat} {ls : qL} {st : List qV} {h : qH} {R : qR} : Wp d 78 0 ls st h R ↔ qB (qdn Wp d) (fun lb ls st h => Wp d 78 lb ls st h R) R k_X7_image_0 ls st h := Wp_u t_X7_image rfl
set_option maxRecDepth 10000 in
theorem t_X7_undo : qnth qTab 79 [] = kk_X7_undo := rfl
theorem u_X7_undo_0 {d : Nat} {ls : qL} {st : List qV} {h : qH} {R : qR} : Wp d 79 0 ls st h R ↔ qB (qdn Wp d) (fun lb ls st h => Wp d 79 lb ls st h R) R k_X7_undo_0 ls st h := Wp_u t_X7_undo rfl
theorem u_X7_undo_1 {d : Nat} {ls : qL} {st : List qV} {h : qH} {R : qR} : Wp d 79 1 ls st h R ↔ qB (qdn Wp d) (fun lb ls st h => Wp d 79 lb ls st h R) R k_X7_undo_1 ls st h := Wp_u t_X7_undo rfl
set_option maxRecDepth 10000 in
theorem t_X7_count : qnth qTab 80 [] = kk_X7_count := rfl
theorem u_X7_count_0 {d : Nat} {ls : qL} {st : List qV} {h : qH} {R : qR} : Wp d 80 0 ls st h R ↔ qB (qdn Wp d) (fun lb ls st h => Wp d 80 lb ls st h R) R k_X7_count_0 ls st h := Wp_u t_X7_count rfl
theorem u_X7_count_1 {d : Nat} {ls : qL} {st : List qV} {h : qH} {R : qR} : Wp d 80 1 ls st h R ↔ qB (qdn Wp d) (fun lb ls st h => Wp d 80 lb ls st h R) R k_X7_count_1 ls st h := Wp_u t_X7_count rfl
theorem u_X7_count_2 {d : Nat} {ls : qL} {st : List qV} {h : qH} {R : qR} : Wp d 80 2 ls st h R ↔ qB (qdn Wp d) (fun lb ls st h => Wp d 80 lb ls st h R) R k_X7_count_2 ls st h := Wp_u t_X7_count rfl
theorem u_X7_count_3 {d : Nat} {ls : qL} {st : List qV} {h : qH} {R : qR} : Wp d 80 3 ls st h R ↔ qB (qdn Wp d) (fun lb ls st h => Wp d 80 lb ls st h R) R k_X7_count_3 ls st h := Wp_u t_X7_count rfl
theorem u_X7_count_4 {d : Nat} {ls : qL} {st : List qV} {h : qH} {R : qR} : Wp d 80 4 ls st h R ↔ qB (qdn Wp d) (fun lb ls st h => Wp d 80 lb ls st h R) R k_X7_count_4 ls st h := Wp_u t_X7_count rfl
theorem u_X7_count_5 {d : Nat} {ls : qL} {st : List qV} {h : qH} {R : qR} : Wp d 80 5 ls st h R ↔ qB (qdn Wp d) (fun lb ls st h => Wp d 80 lb ls st h R) R k_X7_count_5 ls st h := Wp_u t_X7_count rfl
set_option maxRecDepth 10000 in
theorem t_X7_tape : qnth qTab 81 [] = kk_X7_tape := rfl
theorem u_X7_tape_0 {d : Nat} {ls : qL} {st : List qV} {h : qH} {R : qR} : Wp d 81 0 ls st h R ↔ qB (qdn Wp d) (fun lb ls st h => Wp d 81 lb ls st h R) R k_X7_tape_0 ls st h := Wp_u t_X7_tape rfl
theorem u_X7_tape_1 {d : Nat} {ls : qL} {st : List qV} {h : qH} {R : qR} : Wp d 81 1 ls st h R ↔ qB (qdn Wp d) (fun lb ls st h => Wp d 81 lb ls st h R) R k_X7_tape_1 ls st h := Wp_u t_X7_tape rfl
theorem u_X7_tape_2 {d : Nat} {ls : qL} {st : List qV} {h : qH} {R : qR} : Wp d 81 2 ls st h R ↔ qB (qdn Wp d) (fun lb ls st h => Wp d 81 lb ls st h R) R k_X7_tape_2 ls st h := Wp_u t_X7_tape rfl
theorem u_X7_tape_3 {d : Nat} {ls : qL} {st : List qV} {h : qH} {R : qR} : Wp d 81 3 ls st h R ↔ qB (qdn Wp d) (fun lb ls st h => Wp d 81 lb ls st h R) R k_X7_tape_3 ls st h := Wp_u t_X7_tape rfl
theorem u_X7_tape_4 {d : Nat} {ls : qL} {st : List qV} {h : qH} {R : qR} : Wp d 81 4 ls st h R ↔ qB (qdn Wp d) (fun lb ls st h => Wp d 81 lb ls st h R) R k_X7_tape_4 ls st h := Wp_u t_X7_tape rfl
theorem u_X7_tape_5 {d : Nat} {ls : qL} {st : List qV} {h : qH} {R : qR} : Wp d 81 5 ls st h R ↔ qB (qdn Wp d) (fun lb ls st h => Wp d 81 lb ls st h R) R k_X7_tape_5 ls st h := Wp_u t_X7_tape rfl
set_option maxRecDepth 10000 in
theorem t_X7_item : qnth qTab 82 [] = kk_X7_item := rfl
theorem u_X7_item_0 {d : Nat} {ls : qL} {st : List qV} {h : qH} {R : qR} : Wp d 82 0 ls st h R ↔ qB (qdn Wp d) (fun lb ls st h => Wp d 82 lb ls st h R) R k_X7_item_0 ls st h := Wp_u t_X7_item rfl
theorem u_X7_item_1 {d : Nat} {ls : qL} {st : List qV} {h : qH} {R : qR} : Wp d 82 1 ls st h R ↔ qB (qdn Wp d) (fun lb ls st h => Wp d 82 lb ls st h R) R k_X7_item_1 ls st h := Wp_u t_X7_item rfl
theorem u_X7_item_2 {d : Nat} {ls : qL} {st : List qV} {h : qH} {R : qR} : Wp d 82 2 ls st h R ↔ qB (qdn Wp d) (fun lb ls st h => Wp d 82 lb ls st h R) R k_X7_item_2 ls st h := Wp_u t_X7_item rfl
theorem u_X7_item_3 {d : Nat} {ls : qL} {st : List qV} {h : qH} {R : qR} : Wp d 82 3 ls st h R ↔ qB (qdn Wp d) (fun lb ls st h => Wp d 82 lb ls st h R) R k_X7_item_3 ls st h := Wp_u t_X7_item rfl
set_option maxRecDepth 10000 in
theorem t_X7_peek : qnth qTab 83 [] = kk_X7_peek := rfl
theorem u_X7_peek_0 {d : Nat} {ls : qL} {st : List qV} {h : qH} {R : qR} : Wp d 83 0 ls st h R ↔ qB (qdn Wp d) (fun lb ls st h => Wp d 83 lb ls st h R) R k_X7_peek_0 ls st h := Wp_u t_X7_peek rfl
theorem u_X7_peek_1 {d : Nat} {ls : qL} {st : List qV} {h : qH} {R : qR} : Wp d 83 1 ls st h R ↔ qB (qdn Wp d) (fun lb ls st h => Wp d 83 lb ls st h R) R k_X7_peek_1 ls st h := Wp_u t_X7_peek rfl
theorem u_X7_peek_2 {d : Nat} {ls : qL} {st : List qV} {h : qH} {R : qR} : Wp d 83 2 ls st h R ↔ qB (qdn Wp d) (fun lb ls st h => Wp d 83 lb ls st h R) R k_X7_peek_2 ls st h := Wp_u t_X7_peek rfl
set_option maxRecDepth 10000 in
theorem t_X7_shift : qnth qTab 84 [] = kk_X7_shift := rfl
theorem u_X7_shift_0 {d : Nat} {ls : qL} {st : List qV} {h : qH} {R : qR} : Wp d 84 0 ls st h R ↔ qB (qdn Wp d) (fun lb ls st h => Wp d 84 lb ls st h R) R k_X7_shift_0 ls st h := Wp_u t_X7_shift rfl
theorem u_X7_shift_1 {d : Nat} {ls : qL} {st : List qV} {h : qH} {R : qR} : Wp d 84 1 ls st h R ↔ qB (qdn Wp d) (fun lb ls st h => Wp d 84 lb ls st h R) R k_X7_shift_1 ls st h := Wp_u t_X7_shift rfl
theorem u_X7_shift_2 {d : Nat} {ls : qL} {st : List qV} {h : qH} {R : qR} : Wp d 84 2 ls st h R ↔ qB (qdn Wp d) (fun lb ls st h => Wp d 84 lb ls st h R) R k_X7_shift_2 ls st h := Wp_u t_X7_shift rfl
theorem u_X7_shift_3 {d : Nat} {ls : qL} {st : List qV} {h : qH} {R : qR} : Wp d 84 3 ls st h R ↔ qB (qdn Wp d) (fun lb ls st h => Wp d 84 lb ls st h R) R k_X7_shift_3 ls st h := Wp_u t_X7_shift rfl
theorem u_X7_shift_4 {d : Nat} {ls : qL} {st : List qV} {h : qH} {R : qR} : Wp d 84 4 ls st h R ↔ qB (qdn Wp d) (fun lb ls st h => Wp d 84 lb ls st h R) R k_X7_shift_4 ls st h := Wp_u t_X7_shift rfl
theorem u_X7_shift_5 {d : Nat} {ls : qL} {st : List qV} {h : qH} {R : qR} : Wp d 84 5 ls st h R ↔ qB (qdn Wp d) (fun lb ls st h => Wp d 84 lb ls st h R) R k_X7_shift_5 ls st h := Wp_u t_X7_shift rfl
theorem u_X7_shift_6 {d : Nat} {ls : qL} {st : List qV} {h : qH} {R : qR} : Wp d 84 6 ls st h R ↔ qB (qdn Wp d) (fun lb ls st h => Wp d 84 lb ls st h R) R k_X7_shift_6 ls st h := Wp_u t_X7_shift rfl
theorem u_X7_shift_7 {d : Nat} {ls : qL} {st : List qV} {h : qH} {R : qR} : Wp d 84 7 ls st h R ↔ qB (qdn Wp d) (fun lb ls st h => Wp d 84 lb ls st h R) R k_X7_shift_7 ls st h := Wp_u t_X7_shift rfl
set_option maxRecDepth 10000 in
theorem t_X7_isSide : qnth qTab 85 [] = kk_X7_isSide := rfl
theorem u_X7_isSide_0 {d : Nat} {ls : qL} {st : List qV} {h : qH} {R : qR} : Wp d 85 0 ls st h R ↔ qB (qdn Wp d) (fun lb ls st h => Wp d 85 lb ls st h R) R k_X7_isSide_0 ls st h := Wp_u t_X7_isSide rfl
theorem u_X7_isSide_1 {d : Nat} {ls : qL} {st : List qV} {h : qH} {R : qR} : Wp d 85 1 ls st h R ↔ qB (qdn Wp d) (fun lb ls st h => Wp d 85 lb ls st h R) R k_X7_isSide_1 ls st h := Wp_u t_X7_isSide rfl
theorem u_X7_isSide_2 {d : Nat} {ls : qL} {st : List qV} {h : qH} {R : qR} : Wp d 85 2 ls st h R ↔ qB (qdn Wp d) (fun lb ls st h => Wp d 85 lb ls st h R) R k_X7_isSide_2 ls st h := Wp_u t_X7_isSide rfl
set_option maxRecDepth 10000 in
theorem t_X7_isWorth : qnth qTab 86 [] = kk_X7_isWorth := rfl
theorem u_X7_isWorth_0 {d : Nat} {ls : qL} {st : List qV} {h : qH} {R : qR} : Wp d 86 0 ls st h R ↔ qB (qdn Wp d) (fun lb ls st h => Wp d 86 lb ls st h R) R k_X7_isWorth_0 ls st h := Wp_u t_X7_isWorth rfl
theorem u_X7_isWorth_1 {d : Nat} {ls : qL} {st : List qV} {h : qH} {R : qR} : Wp d 86 1 ls st h R ↔ qB (qdn Wp d) (fun lb ls st h => Wp d 86 lb ls st h R) R k_X7_isWorth_1 ls st h := Wp_u t_X7_isWorth rfl
theorem u_X7_isWorth_2 {d : Nat} {ls : qL} {st : List qV} {h : qH} {R : qR} : Wp d 86 2 ls st h R ↔ qB (qdn Wp d) (fun lb ls st h => Wp d 86 lb ls st h R) R k_X7_isWorth_2 ls st h := Wp_u t_X7_isWorth rfl
set_option maxRecDepth 10000 in
theorem t_X7_isOneOfTwo : qnth qTab 87 [] = kk_X7_isOneOfTwo := rfl
theorem u_X7_isOneOfTwo_0 {d : Nat} {ls : qL} {st : List qV} {h : qH} {R : qR} : Wp d 87 0 ls st h R ↔ qB (qdn Wp d) (fun lb ls st h => Wp d 87 lb ls st h R) R k_X7_isOneOfTwo_0 ls st h := Wp_u t_X7_isOneOfTwo rfl
theorem u_X7_isOneOfTwo_1 {d : Nat} {ls : qL} {st : List qV} {h : qH} {R : qR} : Wp d 87 1 ls st h R ↔ qB (qdn Wp d) (fun lb ls st h => Wp d 87 lb ls st h R) R k_X7_isOneOfTwo_1 ls st h := Wp_u t_X7_isOneOfTwo rfl
theorem u_X7_isOneOfTwo_2 {d : Nat} {ls : qL} {st : List qV} {h : qH} {R : qR} : Wp d 87 2 ls st h R ↔ qB (qdn Wp d) (fun lb ls st h => Wp d 87 lb ls st h R) R k_X7_isOneOfTwo_2 ls st h := Wp_u t_X7_isOneOfTwo rfl
theorem u_X7_isOneOfTwo_3 {d : Nat} {ls : qL} {st : List qV} {h : qH} {R : qR} : Wp d 87 3 ls st h R ↔ qB (qdn Wp d) (fun lb ls st h => Wp d 87 lb ls st h R) R k_X7_isOneOfTwo_3 ls st h := Wp_u t_X7_isOneOfTwo rfl
set_option maxRecDepth 10000 in
theorem t_X7_isTape : qnth qTab 88 [] = kk_X7_isTape := rfl
theorem u_X7_isTape_0 {d : Nat} {ls : qL} {st : List qV} {h : qH} {R : qR} : Wp d 88 0 ls st h R ↔ qB (qdn Wp d) (fun lb ls st h => Wp d 88 lb ls st h R) R k_X7_isTape_0 ls st h := Wp_u t_X7_isTape rfl
theorem u_X7_isTape_1 {d : Nat} {ls : qL} {st : List qV} {h : qH} {R : qR} : Wp d 88 1 ls st h R ↔ qB (qdn Wp d) (fun lb ls st h => Wp d 88 lb ls st h R) R k_X7_isTape_1 ls st h := Wp_u t_X7_isTape rfl
theorem u_X7_isTape_2 {d : Nat} {ls : qL} {st : List qV} {h : qH} {R : qR} : Wp d 88 2 ls st h R ↔ qB (qdn Wp d) (fun lb ls st h => Wp d 88 lb ls st h R) R k_X7_isTape_2 ls st h := Wp_u t_X7_isTape rfl
set_option maxRecDepth 10000 in
theorem t_X7_waysOnly : qnth qTab 89 [] = kk_X7_waysOnly := rfl
theorem u_X7_waysOnly_0 {d : Nat} {ls : qL} {st : List qV} {h : qH} {R : qR} : Wp d 89 0 ls st h R ↔ qB (qdn Wp d) (fun lb ls st h => Wp d 89 lb ls st h R) R k_X7_waysOnly_0 ls st h := Wp_u t_X7_waysOnly rfl
set_option maxRecDepth 10000 in
theorem t_X7_squares : qnth qTab 90 [] = kk_X7_squares := rfl
theorem u_X7_squares_0 {d : Nat} {ls : qL} {st : List qV} {h : qH} {R : qR} : Wp d 90 0 ls st h R ↔ qB (qdn Wp d) (fun lb ls st h => Wp d 90 lb ls st h R) R k_X7_squares_0 ls st h := Wp_u t_X7_squares rfl
set_option maxRecDepth 10000 in
theorem t_X7_lowest : qnth qTab 91 [] = kk_X7_lowest := rfl
theorem u_X7_lowest_0 {d : Nat} {ls : qL} {st : List qV} {h : qH} {R : qR} : Wp d 91 0 ls st h R ↔ qB (qdn Wp d) (fun lb ls st h => Wp d 91 lb ls st h R) R k_X7_lowest_0 ls st h := Wp_u t_X7_lowest rfl
theorem u_X7_lowest_1 {d : Nat} {ls : qL} {st : List qV} {h : qH} {R : qR} : Wp d 91 1 ls st h R ↔ qB (qdn Wp d) (fun lb ls st h => Wp d 91 lb ls st h R) R k_X7_lowest_1 ls st h := Wp_u t_X7_lowest rfl
theorem u_X7_lowest_2 {d : Nat} {ls : qL} {st : List qV} {h : qH} {R : qR} : Wp d 91 2 ls st h R ↔ qB (qdn Wp d) (fun lb ls st h => Wp d 91 lb ls st h R) R k_X7_lowest_2 ls st h := Wp_u t_X7_lowest rfl
theorem u_X7_lowest_3 {d : Nat} {ls : qL} {st : List qV} {h : qH} {R : qR} : Wp d 91 3 ls st h R ↔ qB (qdn Wp d) (fun lb ls st h => Wp d 91 lb ls st h R) R k_X7_lowest_3 ls st h := Wp_u t_X7_lowest rfl
theorem u_X7_lowest_4 {d : Nat} {ls : qL} {st : List qV} {h : qH} {R : qR} : Wp d 91 4 ls st h R ↔ qB (qdn Wp d) (fun lb ls st h => Wp d 91 lb ls st h R) R k_X7_lowest_4 ls st h := Wp_u t_X7_lowest rfl
theorem u_X7_lowest_5 {d : Nat} {ls : qL} {st : List qV} {h : qH} {R : qR} : Wp d 91 5 ls st h R ↔ qB (qdn Wp d) (fun lb ls st h => Wp d 91 lb ls st h R) R k_X7_lowest_5 ls st h := Wp_u t_X7_lowest rfl
theorem u_X7_lowest_6 {d : Nat} {ls : qL} {st : List qV} {h : qH} {R : qR} : Wp d 91 6 ls st h R ↔ qB (qdn Wp d) (fun lb ls st h => Wp d 91 lb ls st h R) R k_X7_lowest_6 ls st h := Wp_u t_X7_lowest rfl
set_option maxRecDepth 10000 in
theorem t_X7_isSum : qnth qTab 92 [] = kk_X7_isSum := rfl
theorem u_X7_isSum_0 {d : Nat} {ls : qL} {st : List qV} {h : qH} {R : qR} : Wp d 92 0 ls st h R ↔ qB (qdn Wp d) (fun lb ls st h => Wp d 92 lb ls st h R) R k_X7_isSum_0 ls st h := Wp_u t_X7_isSum rfl
theorem u_X7_isSum_1 {d : Nat} {ls : qL} {st : List qV} {h : qH} {R : qR} : Wp d 92 1 ls st h R ↔ qB (qdn Wp d) (fun lb ls st h => Wp d 92 lb ls st h R) R k_X7_isSum_1 ls st h := Wp_u t_X7_isSum rfl
theorem u_X7_isSum_2 {d : Nat} {ls : qL} {st : List qV} {h : qH} {R : qR} : Wp d 92 2 ls st h R ↔ qB (qdn Wp d) (fun lb ls st h => Wp d 92 lb ls st h R) R k_X7_isSum_2 ls st h := Wp_u t_X7_isSum rfl
theorem u_X7_isSum_3 {d : Nat} {ls : qL} {st : List qV} {h : qH} {R : qR} : Wp d 92 3 ls st h R ↔ qB (qdn Wp d) (fun lb ls st h => Wp d 92 lb ls st h R) R k_X7_isSum_3 ls st h := Wp_u t_X7_isSum rfl
theorem u_X7_isSum_4 {d : Nat} {ls : qL} {st : List qV} {h : qH} {R : qR} : Wp d 92 4 ls st h R ↔ qB (qdn Wp d) (fun lb ls st h => Wp d 92 lb ls st h R) R k_X7_isSum_4 ls st h := Wp_u t_X7_isSum rfl
theorem u_X7_isSum_5 {d : Nat} {ls : qL} {st : List qV} {h : qH} {R : qR} : Wp d 92 5 ls st h R ↔ qB (qdn Wp d) (fun lb ls st h => Wp d 92 lb ls st h R) R k_X7_isSum_5 ls st h := Wp_u t_X7_isSum rfl
set_option maxRecDepth 10000 in
theorem t_X7_freshCuts : qnth qTab 93 [] = kk_X7_freshCuts := rfl
theorem u_X7_freshCuts_0 {d : Nat} {ls : qL} {st : List qV} {h : qH} {R : qR} : Wp d 93 0 ls st h R ↔ qB (qdn Wp d) (fun lb ls st h => Wp d 93 lb ls st h R) R k_X7_freshCuts_0 ls st h := Wp_u t_X7_freshCuts rfl
theorem u_X7_freshCuts_1 {d : Nat} {ls : qL} {st : List qV} {h : qH} {R : qR} : Wp d 93 1 ls st h R ↔ qB (qdn Wp d) (fun lb ls st h => Wp d 93 lb ls st h R) R k_X7_freshCuts_1 ls st h := Wp_u t_X7_freshCuts rfl
set_option maxRecDepth 10000 in
theorem t_X7_rewrite : qnth qTab 94 [] = kk_X7_rewrite := rfl
theorem u_X7_rewrite_0 {d : Nat} {ls : qL} {st : List qV} {h : qH} {R : qR} : Wp d 94 0 ls st h R ↔ qB (qdn Wp d) (fun lb ls st h => Wp d 94 lb ls st h R) R k_X7_rewrite_0 ls st h := Wp_u t_X7_rewrite rfl
set_option maxRecDepth 10000 in
theorem t_X7_tryWorth : qnth qTab 95 [] = kk_X7_tryWorth := rfl
theorem u_X7_tryWorth_0 {d : Nat} {ls : qL} {st : List qV} {h : qH} {R : qR} : Wp d 95 0 ls st h R ↔ qB (qdn Wp d) (fun lb ls st h => Wp d 95 lb ls st h R) R k_X7_tryWorth_0 ls st h := Wp_u t_X7_tryWorth rfl
set_option maxRecDepth 10000 in
theorem t_X7_tellUse : qnth qTab 96 [] = kk_X7_tellUse := rfl
theorem u_X7_tellUse_0 {d : Nat} {ls : qL} {st : List qV} {h : qH} {R : qR} : Wp d 96 0 ls st h R ↔ qB (qdn Wp d) (fun lb ls st h => Wp d 96 lb ls st h R) R k_X7_tellUse_0 ls st h := Wp_u t_X7_tellUse rfl
theorem u_X7_tellUse_1 {d : Nat} {ls : qL} {st : List qV} {h : qH} {R : qR} : Wp d 96 1 ls st h R ↔ qB (qdn Wp d) (fun lb ls st h => Wp d 96 lb ls st h R) R k_X7_tellUse_1 ls st h := Wp_u t_X7_tellUse rfl
theorem u_X7_tellUse_2 {d : Nat} {ls : qL} {st : List qV} {h : qH} {R : qR} : Wp d 96 2 ls st h R ↔ qB (qdn Wp d) (fun lb ls st h => Wp d 96 lb ls st h R) R k_X7_tellUse_2 ls st h := Wp_u t_X7_tellUse rfl
theorem u_X7_tellUse_3 {d : Nat} {ls : qL} {st : List qV} {h : qH} {R : qR} : Wp d 96 3 ls st h R ↔ qB (qdn Wp d) (fun lb ls st h => Wp d 96 lb ls st h R) R k_X7_tellUse_3 ls st h := Wp_u t_X7_tellUse rfl
theorem u_X7_tellUse_4 {d : Nat} {ls : qL} {st : List qV} {h : qH} {R : qR} : Wp d 96 4 ls st h R ↔ qB (qdn Wp d) (fun lb ls st h => Wp d 96 lb ls st h R) R k_X7_tellUse_4 ls st h := Wp_u t_X7_tellUse rfl
theorem u_X7_tellUse_5 {d : Nat} {ls : qL} {st : List qV} {h : qH} {R : qR} : Wp d 96 5 ls st h R ↔ qB (qdn Wp d) (fun lb ls st h => Wp d 96 lb ls st h R) R k_X7_tellUse_5 ls st h := Wp_u t_X7_tellUse rfl
theorem u_X7_tellUse_6 {d : Nat} {ls : qL} {st : List qV} {h : qH} {R : qR} : Wp d 96 6 ls st h R ↔ qB (qdn Wp d) (fun lb ls st h => Wp d 96 lb ls st h R) R k_X7_tellUse_6 ls st h := Wp_u t_X7_tellUse rfl
set_option maxRecDepth 10000 in
theorem t_X7_isEvent : qnth qTab 97 [] = kk_X7_isEvent := rfl
theorem u_X7_isEvent_0 {d : Nat} {ls : qL} {st : List qV} {h : qH} {R : qR} : Wp d 97 0 ls st h R ↔ qB (qdn Wp d) (fun lb ls st h => Wp d 97 lb ls st h R) R k_X7_isEvent_0 ls st h := Wp_u t_X7_isEvent rfl
theorem u_X7_isEvent_1 {d : Nat} {ls : qL} {st : List qV} {h : qH} {R : qR} : Wp d 97 1 ls st h R ↔ qB (qdn Wp d) (fun lb ls st h => Wp d 97 lb ls st h R) R k_X7_isEvent_1 ls st h := Wp_u t_X7_isEvent rfl
theorem u_X7_isEvent_2 {d : Nat} {ls : qL} {st : List qV} {h : qH} {R : qR} : Wp d 97 2 ls st h R ↔ qB (qdn Wp d) (fun lb ls st h => Wp d 97 lb ls st h R) R k_X7_isEvent_2 ls st h := Wp_u t_X7_isEvent rfl
theorem u_X7_isEvent_3 {d : Nat} {ls : qL} {st : List qV} {h : qH} {R : qR} : Wp d 97 3 ls st h R ↔ qB (qdn Wp d) (fun lb ls st h => Wp d 97 lb ls st h R) R k_X7_isEvent_3 ls st h := Wp_u t_X7_isEvent rfl
theorem u_X7_isEvent_4 {d : Nat} {ls : qL} {st : List qV} {h : qH} {R : qR} : Wp d 97 4 ls st h R ↔ qB (qdn Wp d) (fun lb ls st h => Wp d 97 lb ls st h R) R k_X7_isEvent_4 ls st h := Wp_u t_X7_isEvent rfl
theorem u_X7_isEvent_5 {d : Nat} {ls : qL} {st : List qV} {h : qH} {R : qR} : Wp d 97 5 ls st h R ↔ qB (qdn Wp d) (fun lb ls st h => Wp d 97 lb ls st h R) R k_X7_isEvent_5 ls st h := Wp_u t_X7_isEvent rfl
theorem u_X7_isEvent_6 {d : Nat} {ls : qL} {st : List qV} {h : qH} {R : qR} : Wp d 97 6 ls st h R ↔ qB (qdn Wp d) (fun lb ls st h => Wp d 97 lb ls st h R) R k_X7_isEvent_6 ls st h := Wp_u t_X7_isEvent rfl
theorem u_X7_isEvent_7 {d : Nat} {ls : qL} {st : List qV} {h : qH} {R : qR} : Wp d 97 7 ls st h R ↔ qB (qdn Wp d) (fun lb ls st h => Wp d 97 lb ls st h R) R k_X7_isEvent_7 ls st h := Wp_u t_X7_isEvent rfl
set_option maxRecDepth 10000 in
theorem t_X7_doClauses : qnth qTab 98 [] = kk_X7_doClauses := rfl
theorem u_X7_doClauses_0 {d : Nat} {ls : qL} {st : List qV} {h : qH} {R : qR} : Wp d 98 0 ls st h R ↔ qB (qdn Wp d) (fun lb ls st h => Wp d 98 lb ls st h R) R k_X7_doClauses_0 ls st h := Wp_u t_X7_doClauses rfl
theorem u_X7_doClauses_1 {d : Nat} {ls : qL} {st : List qV} {h : qH} {R : qR} : Wp d 98 1 ls st h R ↔ qB (qdn Wp d) (fun lb ls st h => Wp d 98 lb ls st h R) R k_X7_doClauses_1 ls st h := Wp_u t_X7_doClauses rfl
theorem u_X7_doClauses_2 {d : Nat} {ls : qL} {st : List qV} {h : qH} {R : qR} : Wp d 98 2 ls st h R ↔ qB (qdn Wp d) (fun lb ls st h => Wp d 98 lb ls st h R) R k_X7_doClauses_2 ls st h := Wp_u t_X7_doClauses rfl
theorem u_X7_doClauses_3 {d : Nat} {ls : qL} {st : List qV} {h : qH} {R : qR} : Wp d 98 3 ls st h R ↔ qB (qdn Wp d) (fun lb ls st h => Wp d 98 lb ls st h R) R k_X7_doClauses_3 ls st h := Wp_u t_X7_doClauses rfl
set_option maxRecDepth 10000 in
theorem t_X7_doClause : qnth qTab 99 [] = kk_X7_doClause := rfl
theorem u_X7_doClause_0 {d : Nat} {ls : qL} {st : List qV} {h : qH} {R : qR} : Wp d 99 0 ls st h R ↔ qB (qdn Wp d) (fun lb ls st h => Wp d 99 lb ls st h R) R k_X7_doClause_0 ls st h := Wp_u t_X7_doClause rfl
theorem u_X7_doClause_1 {d : Nat} {ls : qL} {st : List qV} {h : qH} {R : qR} : Wp d 99 1 ls st h R ↔ qB (qdn Wp d) (fun lb ls st h => Wp d 99 lb ls st h R) R k_X7_doClause_1 ls st h := Wp_u t_X7_doClause rfl
theorem u_X7_doClause_2 {d : Nat} {ls : qL} {st : List qV} {h : qH} {R : qR} : Wp d 99 2 ls st h R ↔ qB (qdn Wp d) (fun lb ls st h => Wp d 99 lb ls st h R) R k_X7_doClause_2 ls st h := Wp_u t_X7_doClause rfl
theorem u_X7_doClause_3 {d : Nat} {ls : qL} {st : List qV} {h : qH} {R : qR} : Wp d 99 3 ls st h R ↔ qB (qdn Wp d) (fun lb ls st h => Wp d 99 lb ls st h R) R k_X7_doClause_3 ls st h := Wp_u t_X7_doClause rfl
theorem u_X7_doClause_4 {d : Nat} {ls : qL} {st : List qV} {h : qH} {R : qR} : Wp d 99 4 ls st h R ↔ qB (qdn Wp d) (fun lb ls st h => Wp d 99 lb ls st h R) R k_X7_doClause_4 ls st h := Wp_u t_X7_doClause rfl
theorem u_X7_doClause_5 {d : Nat} {ls : qL} {st : List qV} {h : qH} {R : qR} : Wp d 99 5 ls st h R ↔ qB (qdn Wp d) (fun lb ls st h => Wp d 99 lb ls st h R) R k_X7_doClause_5 ls st h := Wp_u t_X7_doClause rfl
theorem u_X7_doClause_6 {d : Nat} {ls : qL} {st : List qV} {h : qH} {R : qR} : Wp d 99 6 ls st h R ↔ qB (qdn Wp d) (fun lb ls st h => Wp d 99 lb ls st h R) R k_X7_doClause_6 ls st h := Wp_u t_X7_doClause rfl
set_option maxRecDepth 10000 in
theorem t_X8_in : qnth qTab 100 [] = kk_X8_in := rfl
theorem u_X8_in_0 {d : Nat} {ls : qL} {st : List qV} {h : qH} {R : qR} : Wp d 100 0 ls st h R ↔ qB (qdn Wp d) (fun lb ls st h => Wp d 100 lb ls st h R) R k_X8_in_0 ls st h := Wp_u t_X8_in rfl
theorem u_X8_in_1 {d : Nat} {ls : qL} {st : List qV} {h : qH} {R : qR} : Wp d 100 1 ls st h R ↔ qB (qdn Wp d) (fun lb ls st h => Wp d 100 lb ls st h R) R k_X8_in_1 ls st h := Wp_u t_X8_in rfl
theorem u_X8_in_2 {d : Nat} {ls : qL} {st : List qV} {h : qH} {R : qR} : Wp d 100 2 ls st h R ↔ qB (qdn Wp d) (fun lb ls st h => Wp d 100 lb ls st h R) R k_X8_in_2 ls st h := Wp_u t_X8_in rfl
set_option maxRecDepth 10000 in
theorem t_X8_isPart : qnth qTab 101 [] = kk_X8_isPart := rfl
theorem u_X8_isPart_0 {d : Nat} {ls : qL} {st : List qV} {h : qH} {R : qR} : Wp d 101 0 ls st h R ↔ qB (qdn Wp d) (fun lb ls st h => Wp d 101 lb ls st h R) R k_X8_isPart_0 ls st h := Wp_u t_X8_isPart rfl
set_option maxRecDepth 10000 in
theorem t_X8_think : qnth qTab 102 [] = kk_X8_think := rfl
theorem u_X8_think_0 {d : Nat} {ls : qL} {st : List qV} {h : qH} {R : qR} : Wp d 102 0 ls st h R ↔ qB (qdn Wp d) (fun lb ls st h => Wp d 102 lb ls st h R) R k_X8_think_0 ls st h := Wp_u t_X8_think rfl
set_option maxRecDepth 10000 in
theorem t_X8_forget : qnth qTab 103 [] = kk_X8_forget := rfl
theorem u_X8_forget_0 {d : Nat} {ls : qL} {st : List qV} {h : qH} {R : qR} : Wp d 103 0 ls st h R ↔ qB (qdn Wp d) (fun lb ls st h => Wp d 103 lb ls st h R) R k_X8_forget_0 ls st h := Wp_u t_X8_forget rfl
set_option maxRecDepth 10000 in
theorem t_X8_plate : qnth qTab 104 [] = kk_X8_plate := rfl
theorem u_X8_plate_0 {d : Nat} {ls : qL} {st : List qV} {h : qH} {R : qR} : Wp d 104 0 ls st h R ↔ qB (qdn Wp d) (fun lb ls st h => Wp d 104 lb ls st h R) R k_X8_plate_0 ls st h := Wp_u t_X8_plate rfl
theorem u_X8_plate_1 {d : Nat} {ls : qL} {st : List qV} {h : qH} {R : qR} : Wp d 104 1 ls st h R ↔ qB (qdn Wp d) (fun lb ls st h => Wp d 104 lb ls st h R) R k_X8_plate_1 ls st h := Wp_u t_X8_plate rfl
theorem u_X8_plate_2 {d : Nat} {ls : qL} {st : List qV} {h : qH} {R : qR} : Wp d 104 2 ls st h R ↔ qB (qdn Wp d) (fun lb ls st h => Wp d 104 lb ls st h R) R k_X8_plate_2 ls st h := Wp_u t_X8_plate rfl
set_option maxRecDepth 10000 in
theorem t_X8_kerf : qnth qTab 105 [] = kk_X8_kerf := rfl
theorem u_X8_kerf_0 {d : Nat} {ls : qL} {st : List qV} {h : qH} {R : qR} : Wp d 105 0 ls st h R ↔ qB (qdn Wp d) (fun lb ls st h => Wp d 105 lb ls st h R) R k_X8_kerf_0 ls st h := Wp_u t_X8_kerf rfl
theorem u_X8_kerf_1 {d : Nat} {ls : qL} {st : List qV} {h : qH} {R : qR} : Wp d 105 1 ls st h R ↔ qB (qdn Wp d) (fun lb ls st h => Wp d 105 lb ls st h R) R k_X8_kerf_1 ls st h := Wp_u t_X8_kerf rfl
set_option maxRecDepth 10000 in
theorem t_X8_part : qnth qTab 106 [] = kk_X8_part := rfl
theorem u_X8_part_0 {d : Nat} {ls : qL} {st : List qV} {h : qH} {R : qR} : Wp d 106 0 ls st h R ↔ qB (qdn Wp d) (fun lb ls st h => Wp d 106 lb ls st h R) R k_X8_part_0 ls st h := Wp_u t_X8_part rfl
theorem u_X8_part_1 {d : Nat} {ls : qL} {st : List qV} {h : qH} {R : qR} : Wp d 106 1 ls st h R ↔ qB (qdn Wp d) (fun lb ls st h => Wp d 106 lb ls st h R) R k_X8_part_1 ls st h := Wp_u t_X8_part rfl
theorem u_X8_part_2 {d : Nat} {ls : qL} {st : List qV} {h : qH} {R : qR} : Wp d 106 2 ls st h R ↔ qB (qdn Wp d) (fun lb ls st h => Wp d 106 lb ls st h R) R k_X8_part_2 ls st h := Wp_u t_X8_part rfl
theorem u_X8_part_3 {d : Nat} {ls : qL} {st : List qV} {h : qH} {R : qR} : Wp d 106 3 ls st h R ↔ qB (qdn Wp d) (fun lb ls st h => Wp d 106 lb ls st h R) R k_X8_part_3 ls st h := Wp_u t_X8_part rfl
theorem u_X8_part_4 {d : Nat} {ls : qL} {st : List qV} {h : qH} {R : qR} : Wp d 106 4 ls st h R ↔ qB (qdn Wp d) (fun lb ls st h => Wp d 106 lb ls st h R) R k_X8_part_4 ls st h := Wp_u t_X8_part rfl
theorem u_X8_part_5 {d : Nat} {ls : qL} {st : List qV} {h : qH} {R : qR} : Wp d 106 5 ls st h R ↔ qB (qdn Wp d) (fun lb ls st h => Wp d 106 lb ls st h R) R k_X8_part_5 ls st h := Wp_u t_X8_part rfl
set_option maxRecDepth 10000 in
theorem t_X8_renew : qnth qTab 107 [] = kk_X8_renew := rfl
theorem u_X8_renew_0 {d : Nat} {ls : qL} {st : List qV} {h : qH} {R : qR} : Wp d 107 0 ls st h R ↔ qB (qdn Wp d) (fun lb ls st h => Wp d 107 lb ls st h R) R k_X8_renew_0 ls st h := Wp_u t_X8_renew rfl
theorem u_X8_renew_1 {d : Nat} {ls : qL} {st : List qV} {h : qH} {R : qR} : Wp d 107 1 ls st h R ↔ qB (qdn Wp d) (fun lb ls st h => Wp d 107 lb ls st h R) R k_X8_renew_1 ls st h := Wp_u t_X8_renew rfl
theorem u_X8_renew_2 {d : Nat} {ls : qL} {st : List qV} {h : qH} {R : qR} : Wp d 107 2 ls st h R ↔ qB (qdn Wp d) (fun lb ls st h => Wp d 107 lb ls st h R) R k_X8_renew_2 ls st h := Wp_u t_X8_renew rfl
theorem u_X8_renew_3 {d : Nat} {ls : qL} {st : List qV} {h : qH} {R : qR} : Wp d 107 3 ls st h R ↔ qB (qdn Wp d) (fun lb ls st h => Wp d 107 lb ls st h R) R k_X8_renew_3 ls st h := Wp_u t_X8_renew rfl
theorem u_X8_renew_4 {d : Nat} {ls : qL} {st : List qV} {h : qH} {R : qR} : Wp d 107 4 ls st h R ↔ qB (qdn Wp d) (fun lb ls st h => Wp d 107 lb ls st h R) R k_X8_renew_4 ls st h := Wp_u t_X8_renew rfl
theorem u_X8_renew_5 {d : Nat} {ls : qL} {st : List qV} {h : qH} {R : qR} : Wp d 107 5 ls st h R ↔ qB (qdn Wp d) (fun lb ls st h => Wp d 107 lb ls st h R) R k_X8_renew_5 ls st h := Wp_u t_X8_renew rfl
set_option maxRecDepth 10000 in
theorem t_X8_turn : qnth qTab 108 [] = kk_X8_turn := rfl
theorem u_X8_turn_0 {d : Nat} {ls : qL} {st : List qV} {h : qH} {R : qR} : Wp d 108 0 ls st h R ↔ qB (qdn Wp d) (fun lb ls st h => Wp d 108 lb ls st h R) R k_X8_turn_0 ls st h := Wp_u t_X8_turn rfl
theorem u_X8_turn_1 {d : Nat} {ls : qL} {st : List qV} {h : qH} {R : qR} : Wp d 108 1 ls st h R ↔ qB (qdn Wp d) (fun lb ls st h => Wp d 108 lb ls st h R) R k_X8_turn_1 ls st h := Wp_u t_X8_turn rfl
theorem u_X8_turn_2 {d : Nat} {ls : qL} {st : List qV} {h : qH} {R : qR} : Wp d 108 2 ls st h R ↔ qB (qdn Wp d) (fun lb ls st h => Wp d 108 lb ls st h R) R k_X8_turn_2 ls st h := Wp_u t_X8_turn rfl
theorem u_X8_turn_3 {d : Nat} {ls : qL} {st : List qV} {h : qH} {R : qR} : Wp d 108 3 ls st h R ↔ qB (qdn Wp d) (fun lb ls st h => Wp d 108 lb ls st h R) R k_X8_turn_3 ls st h := Wp_u t_X8_turn rfl
set_option maxRecDepth 10000 in
theorem t_X8_of : qnth qTab 109 [] = kk_X8_of := rfl
theorem u_X8_of_0 {d : Nat} {ls : qL} {st : List qV} {h : qH} {R : qR} : Wp d 109 0 ls st h R ↔ qB (qdn Wp d) (fun lb ls st h => Wp d 109 lb ls st h R) R k_X8_of_0 ls st h := Wp_u t_X8_of rfl
theorem u_X8_of_1 {d : Nat} {ls : qL} {st : List qV} {h : qH} {R : qR} : Wp d 109 1 ls st h R ↔ qB (qdn Wp d) (fun lb ls st h => Wp d 109 lb ls st h R) R k_X8_of_1 ls st h := Wp_u t_X8_of rfl
theorem u_X8_of_2 {d : Nat} {ls : qL} {st : List qV} {h : qH} {R : qR} : Wp d 109 2 ls st h R ↔ qB (qdn Wp d) (fun lb ls st h => Wp d 109 lb ls st h R) R k_X8_of_2 ls st h := Wp_u t_X8_of rfl
theorem u_X8_of_3 {d : Nat} {ls : qL} {st : List qV} {h : qH} {R : qR} : Wp d 109 3 ls st h R ↔ qB (qdn Wp d) (fun lb ls st h => Wp d 109 lb ls st h R) R k_X8_of_3 ls st h := Wp_u t_X8_of rfl
set_option maxRecDepth 10000 in
theorem t_X8_isSquare : qnth qTab 110 [] = kk_X8_isSquare := rfl
theorem u_X8_isSquare_0 {d : Nat} {ls : qL} {st : List qV} {h : qH} {R : qR} : Wp d 110 0 ls st h R ↔ qB (qdn Wp d) (fun lb ls st h => Wp d 110 lb ls st h R) R k_X8_isSquare_0 ls st h := Wp_u t_X8_isSquare rfl
theorem u_X8_isSquare_1 {d : Nat} {ls : qL} {st : List qV} {h : qH} {R : qR} : Wp d 110 1 ls st h R ↔ qB (qdn Wp d) (fun lb ls st h => Wp d 110 lb ls st h R) R k_X8_isSquare_1 ls st h := Wp_u t_X8_isSquare rfl
theorem u_X8_isSquare_2 {d : Nat} {ls : qL} {st : List qV} {h : qH} {R : qR} : Wp d 110 2 ls st h R ↔ qB (qdn Wp d) (fun lb ls st h => Wp d 110 lb ls st h R) R k_X8_isSquare_2 ls st h := Wp_u t_X8_isSquare rfl
set_option maxRecDepth 10000 in
theorem t_X8_defects : qnth qTab 111 [] = kk_X8_defects := rfl
theorem u_X8_defects_0 {d : Nat} {ls : qL} {st : List qV} {h : qH} {R : qR} : Wp d 111 0 ls st h R ↔ qB (qdn Wp d) (fun lb ls st h => Wp d 111 lb ls st h R) R k_X8_defects_0 ls st h := Wp_u t_X8_defects rfl
theorem u_X8_defects_1 {d : Nat} {ls : qL} {st : List qV} {h : qH} {R : qR} : Wp d 111 1 ls st h R ↔ qB (qdn Wp d) (fun lb ls st h => Wp d 111 lb ls st h R) R k_X8_defects_1 ls st h := Wp_u t_X8_defects rfl
theorem u_X8_defects_2 {d : Nat} {ls : qL} {st : List qV} {h : qH} {R : qR} : Wp d 111 2 ls st h R ↔ qB (qdn Wp d) (fun lb ls st h => Wp d 111 lb ls st h R) R k_X8_defects_2 ls st h := Wp_u t_X8_defects rfl
set_option maxRecDepth 10000 in
theorem t_X8_clearDefects : qnth qTab 112 [] = kk_X8_clearDefects := rfl
theorem u_X8_clearDefects_0 {d : Nat} {ls : qL} {st : List qV} {h : qH} {R : qR} : Wp d 112 0 ls st h R ↔ qB (qdn Wp d) (fun lb ls st h => Wp d 112 lb ls st h R) R k_X8_clearDefects_0 ls st h := Wp_u t_X8_clearDefects rfl
theorem u_X8_clearDefects_1 {d : Nat} {ls : qL} {st : List qV} {h : qH} {R : qR} : Wp d 112 1 ls st h R ↔ qB (qdn Wp d) (fun lb ls st h => Wp d 112 lb ls st h R) R k_X8_clearDefects_1 ls st h := Wp_u t_X8_clearDefects rfl
theorem u_X8_clearDefects_2 {d : Nat} {ls : qL} {st : List qV} {h : qH} {R : qR} : Wp d 112 2 ls st h R ↔ qB (qdn Wp d) (fun lb ls st h => Wp d 112 lb ls st h R) R k_X8_clearDefects_2 ls st h := Wp_u t_X8_clearDefects rfl
set_option maxRecDepth 10000 in
theorem t_X8_defect : qnth qTab 113 [] = kk_X8_defect := rfl
theorem u_X8_defect_0 {d : Nat} {ls : qL} {st : List qV} {h : qH} {R : qR} : Wp d 113 0 ls st h R ↔ qB (qdn Wp d) (fun lb ls st h => Wp d 113 lb ls st h R) R k_X8_defect_0 ls st h := Wp_u t_X8_defect rfl
theorem u_X8_defect_1 {d : Nat} {ls : qL} {st : List qV} {h : qH} {R : qR} : Wp d 113 1 ls st h R ↔ qB (qdn Wp d) (fun lb ls st h => Wp d 113 lb ls st h R) R k_X8_defect_1 ls st h := Wp_u t_X8_defect rfl
theorem u_X8_defect_2 {d : Nat} {ls : qL} {st : List qV} {h : qH} {R : qR} : Wp d 113 2 ls st h R ↔ qB (qdn Wp d) (fun lb ls st h => Wp d 113 lb ls st h R) R k_X8_defect_2 ls st h := Wp_u t_X8_defect rfl
theorem u_X8_defect_3 {d : Nat} {ls : qL} {st : List qV} {h : qH} {R : qR} : Wp d 113 3 ls st h R ↔ qB (qdn Wp d) (fun lb ls st h => Wp d 113 lb ls st h R) R k_X8_defect_3 ls st h := Wp_u t_X8_defect rfl
set_option maxRecDepth 10000 in
theorem t_X8_mend : qnth qTab 114 [] = kk_X8_mend := rfl
theorem u_X8_mend_0 {d : Nat} {ls : qL} {st : List qV} {h : qH} {R : qR} : Wp d 114 0 ls st h R ↔ qB (qdn Wp d) (fun lb ls st h => Wp d 114 lb ls st h R) R k_X8_mend_0 ls st h := Wp_u t_X8_mend rfl
set_option maxRecDepth 10000 in
theorem t_X8_feed : qnth qTab 115 [] = kk_X8_feed := rfl
theorem u_X8_feed_0 {d : Nat} {ls : qL} {st : List qV} {h : qH} {R : qR} : Wp d 115 0 ls st h R ↔ qB (qdn Wp d) (fun lb ls st h => Wp d 115 lb ls st h R) R k_X8_feed_0 ls st h := Wp_u t_X8_feed rfl
theorem u_X8_feed_1 {d : Nat} {ls : qL} {st : List qV} {h : qH} {R : qR} : Wp d 115 1 ls st h R ↔ qB (qdn Wp d) (fun lb ls st h => Wp d 115 lb ls st h R) R k_X8_feed_1 ls st h := Wp_u t_X8_feed rfl
theorem u_X8_feed_2 {d : Nat} {ls : qL} {st : List qV} {h : qH} {R : qR} : Wp d 115 2 ls st h R ↔ qB (qdn Wp d) (fun lb ls st h => Wp d 115 lb ls st h R) R k_X8_feed_2 ls st h := Wp_u t_X8_feed rfl
set_option maxRecDepth 10000 in
theorem t_X8_isDigit : qnth qTab 116 [] = kk_X8_isDigit := rfl
theorem u_X8_isDigit_0 {d : Nat} {ls : qL} {st : List qV} {h : qH} {R : qR} : Wp d 116 0 ls st h R ↔ qB (qdn Wp d) (fun lb ls st h => Wp d 116 lb ls st h R) R k_X8_isDigit_0 ls st h := Wp_u t_X8_isDigit rfl
theorem u_X8_isDigit_1 {d : Nat} {ls : qL} {st : List qV} {h : qH} {R : qR} : Wp d 116 1 ls st h R ↔ qB (qdn Wp d) (fun lb ls st h => Wp d 116 lb ls st h R) R k_X8_isDigit_1 ls st h := Wp_u t_X8_isDigit rfl
theorem u_X8_isDigit_2 {d : Nat} {ls : qL} {st : List qV} {h : qH} {R : qR} : Wp d 116 2 ls st h R ↔ qB (qdn Wp d) (fun lb ls st h => Wp d 116 lb ls st h R) R k_X8_isDigit_2 ls st h := Wp_u t_X8_isDigit rfl
set_option maxRecDepth 10000 in
theorem t_X8_digit : qnth qTab 117 [] = kk_X8_digit := rfl
theorem u_X8_digit_0 {d : Nat} {ls : qL} {st : List qV} {h : qH} {R : qR} : Wp d 117 0 ls st h R ↔ qB (qdn Wp d) (fun lb ls st h => Wp d 117 lb ls st h R) R k_X8_digit_0 ls st h := Wp_u t_X8_digit rfl
set_option maxRecDepth 10000 in
theorem t_X8_isOne : qnth qTab 118 [] = kk_X8_isOne := rfl
theorem u_X8_isOne_0 {d : Nat} {ls : qL} {st : List qV} {h : qH} {R : qR} : Wp d 118 0 ls st h R ↔ qB (qdn Wp d) (fun lb ls st h => Wp d 118 lb ls st h R) R k_X8_isOne_0 ls st h := Wp_u t_X8_isOne rfl
theorem u_X8_isOne_1 {d : Nat} {ls : qL} {st : List qV} {h : qH} {R : qR} : Wp d 118 1 ls st h R ↔ qB (qdn Wp d) (fun lb ls st h => Wp d 118 lb ls st h R) R k_X8_isOne_1 ls st h := Wp_u t_X8_isOne rfl
theorem u_X8_isOne_2 {d : Nat} {ls : qL} {st : List qV} {h : qH} {R : qR} : Wp d 118 2 ls st h R ↔ qB (qdn Wp d) (fun lb ls st h => Wp d 118 lb ls st h R) R k_X8_isOne_2 ls st h := Wp_u t_X8_isOne rfl
set_option maxRecDepth 10000 in
theorem t_X8_faultOf : qnth qTab 119 [] = kk_X8_faultOf := rfl
theorem u_X8_faultOf_0 {d : Nat} {ls : qL} {st : List qV} {h : qH} {R : qR} : Wp d 119 0 ls st h R ↔ qB (qdn Wp d) (fun lb ls st h => Wp d 119 lb ls st h R) R k_X8_faultOf_0 ls st h := Wp_u t_X8_faultOf rfl
theorem u_X8_faultOf_1 {d : Nat} {ls : qL} {st : List qV} {h : qH} {R : qR} : Wp d 119 1 ls st h R ↔ qB (qdn Wp d) (fun lb ls st h => Wp d 119 lb ls st h R) R k_X8_faultOf_1 ls st h := Wp_u t_X8_faultOf rfl
theorem u_X8_faultOf_2 {d : Nat} {ls : qL} {st : List qV} {h : qH} {R : qR} : Wp d 119 2 ls st h R ↔ qB (qdn Wp d) (fun lb ls st h => Wp d 119 lb ls st h R) R k_X8_faultOf_2 ls st h := Wp_u t_X8_faultOf rfl
theorem u_X8_faultOf_3 {d : Nat} {ls : qL} {st : List qV} {h : qH} {R : qR} : Wp d 119 3 ls st h R ↔ qB (qdn Wp d) (fun lb ls st h => Wp d 119 lb ls st h R) R k_X8_faultOf_3 ls st h := Wp_u t_X8_faultOf rfl
theorem u_X8_faultOf_4 {d : Nat} {ls : qL} {st : List qV} {h : qH} {R : qR} : Wp d 119 4 ls st h R ↔ qB (qdn Wp d) (fun lb ls st h => Wp d 119 lb ls st h R) R k_X8_faultOf_4 ls st h := Wp_u t_X8_faultOf rfl
theorem u_X8_faultOf_5 {d : Nat} {ls : qL} {st : List qV} {h : qH} {R : qR} : Wp d 119 5 ls st h R ↔ qB (qdn Wp d) (fun lb ls st h => Wp d 119 lb ls st h R) R k_X8_faultOf_5 ls st h := Wp_u t_X8_faultOf rfl
theorem u_X8_faultOf_6 {d : Nat} {ls : qL} {st : List qV} {h : qH} {R : qR} : Wp d 119 6 ls st h R ↔ qB (qdn Wp d) (fun lb ls st h => Wp d 119 lb ls st h R) R k_X8_faultOf_6 ls st h := Wp_u t_X8_faultOf rfl
theorem u_X8_faultOf_7 {d : Nat} {ls : qL} {st : List qV} {h : qH} {R : qR} : Wp d 119 7 ls st h R ↔ qB (qdn Wp d) (fun lb ls st h => Wp d 119 lb ls st h R) R k_X8_faultOf_7 ls st h := Wp_u t_X8_faultOf rfl
theorem u_X8_faultOf_8 {d : Nat} {ls : qL} {st : List qV} {h : qH} {R : qR} : Wp d 119 8 ls st h R ↔ qB (qdn Wp d) (fun lb ls st h => Wp d 119 lb ls st h R) R k_X8_faultOf_8 ls st h := Wp_u t_X8_faultOf rfl
theorem u_X8_faultOf_9 {d : Nat} {ls : qL} {st : List qV} {h : qH} {R : qR} : Wp d 119 9 ls st h R ↔ qB (qdn Wp d) (fun lb ls st h => Wp d 119 lb ls st h R) R k_X8_faultOf_9 ls st h := Wp_u t_X8_faultOf rfl
theorem u_X8_faultOf_10 {d : Nat} {ls : qL} {st : List qV} {h : qH} {R : qR} : Wp d 119 10 ls st h R ↔ qB (qdn Wp d) (fun lb ls st h => Wp d 119 lb ls st h R) R k_X8_faultOf_10 ls st h := Wp_u t_X8_faultOf rfl
theorem u_X8_faultOf_11 {d : Nat} {ls : qL} {st : List qV} {h : qH} {R : qR} : Wp d 119 11 ls st h R ↔ qB (qdn Wp d) (fun lb ls st h => Wp d 119 lb ls st h R) R k_X8_faultOf_11 ls st h := Wp_u t_X8_faultOf rfl
theorem u_X8_faultOf_12 {d : Nat} {ls : qL} {st : List qV} {h : qH} {R : qR} : Wp d 119 12 ls st h R ↔ qB (qdn Wp d) (fun lb ls st h => Wp d 119 lb ls st h R) R k_X8_faultOf_12 ls st h := Wp_u t_X8_faultOf rfl
set_option maxRecDepth 10000 in
theorem t_X8_does : qnth qTab 120 [] = kk_X8_does := rfl
theorem u_X8_does_0 {d : Nat} {ls : qL} {st : List qV} {h : qH} {R : qR} : Wp d 120 0 ls st h R ↔ qB (qdn Wp d) (fun lb ls st h => Wp d 120 lb ls st h R) R k_X8_does_0 ls st h := Wp_u t_X8_does rfl
theorem u_X8_does_1 {d : Nat} {ls : qL} {st : List qV} {h : qH} {R : qR} : Wp d 120 1 ls st h R ↔ qB (qdn Wp d) (fun lb ls st h => Wp d 120 lb ls st h R) R k_X8_does_1 ls st h := Wp_u t_X8_does rfl
theorem u_X8_does_2 {d : Nat} {ls : qL} {st : List qV} {h : qH} {R : qR} : Wp d 120 2 ls st h R ↔ qB (qdn Wp d) (fun lb ls st h => Wp d 120 lb ls st h R) R k_X8_does_2 ls st h := Wp_u t_X8_does rfl
theorem u_X8_does_3 {d : Nat} {ls : qL} {st : List qV} {h : qH} {R : qR} : Wp d 120 3 ls st h R ↔ qB (qdn Wp d) (fun lb ls st h => Wp d 120 lb ls st h R) R k_X8_does_3 ls st h := Wp_u t_X8_does rfl
theorem u_X8_does_4 {d : Nat} {ls : qL} {st : List qV} {h : qH} {R : qR} : Wp d 120 4 ls st h R ↔ qB (qdn Wp d) (fun lb ls st h => Wp d 120 lb ls st h R) R k_X8_does_4 ls st h := Wp_u t_X8_does rfl
theorem u_X8_does_5 {d : Nat} {ls : qL} {st : List qV} {h : qH} {R : qR} : Wp d 120 5 ls st h R ↔ qB (qdn Wp d) (fun lb ls st h => Wp d 120 lb ls st h R) R k_X8_does_5 ls st h := Wp_u t_X8_does rfl
theorem u_X8_does_6 {d : Nat} {ls : qL} {st : List qV} {h : qH} {R : qR} : Wp d 120 6 ls st h R ↔ qB (qdn Wp d) (fun lb ls st h => Wp d 120 lb ls st h R) R k_X8_does_6 ls st h := Wp_u t_X8_does rfl
theorem u_X8_does_7 {d : Nat} {ls : qL} {st : List qV} {h : qH} {R : qR} : Wp d 120 7 ls st h R ↔ qB (qdn Wp d) (fun lb ls st h => Wp d 120 lb ls st h R) R k_X8_does_7 ls st h := Wp_u t_X8_does rfl
theorem u_X8_does_8 {d : Nat} {ls : qL} {st : List qV} {h : qH} {R : qR} : Wp d 120 8 ls st h R ↔ qB (qdn Wp d) (fun lb ls st h => Wp d 120 lb ls st h R) R k_X8_does_8 ls st h := Wp_u t_X8_does rfl
set_option maxRecDepth 10000 in
theorem t_X8_read : qnth qTab 121 [] = kk_X8_read := rfl
theorem u_X8_read_0 {d : Nat} {ls : qL} {st : List qV} {h : qH} {R : qR} : Wp d 121 0 ls st h R ↔ qB (qdn Wp d) (fun lb ls st h => Wp d 121 lb ls st h R) R k_X8_read_0 ls st h := Wp_u t_X8_read rfl
theorem u_X8_read_1 {d : Nat} {ls : qL} {st : List qV} {h : qH} {R : qR} : Wp d 121 1 ls st h R ↔ qB (qdn Wp d) (fun lb ls st h => Wp d 121 lb ls st h R) R k_X8_read_1 ls st h := Wp_u t_X8_read rfl
theorem u_X8_read_2 {d : Nat} {ls : qL} {st : List qV} {h : qH} {R : qR} : Wp d 121 2 ls st h R ↔ qB (qdn Wp d) (fun lb ls st h => Wp d 121 lb ls st h R) R k_X8_read_2 ls st h := Wp_u t_X8_read rfl
theorem u_X8_read_3 {d : Nat} {ls : qL} {st : List qV} {h : qH} {R : qR} : Wp d 121 3 ls st h R ↔ qB (qdn Wp d) (fun lb ls st h => Wp d 121 lb ls st h R) R k_X8_read_3 ls st h := Wp_u t_X8_read rfl
theorem u_X8_read_4 {d : Nat} {ls : qL} {st : List qV} {h : qH} {R : qR} : Wp d 121 4 ls st h R ↔ qB (qdn Wp d) (fun lb ls st h => Wp d 121 lb ls st h R) R k_X8_read_4 ls st h := Wp_u t_X8_read rfl
theorem u_X8_read_5 {d : Nat} {ls : qL} {st : List qV} {h : qH} {R : qR} : Wp d 121 5 ls st h R ↔ qB (qdn Wp d) (fun lb ls st h => Wp d 121 lb ls st h R) R k_X8_read_5 ls st h := Wp_u t_X8_read rfl
set_option maxRecDepth 10000 in
theorem t_X8_at : qnth qTab 122 [] = kk_X8_at := rfl
theorem u_X8_at_0 {d : Nat} {ls : qL} {st : List qV} {h : qH} {R : qR} : Wp d 122 0 ls st h R ↔ qB (qdn Wp d) (fun lb ls st h => Wp d 122 lb ls st h R) R k_X8_at_0 ls st h := Wp_u t_X8_at rfl
set_option maxRecDepth 10000 in
theorem t_X8_isPiece : qnth qTab 123 [] = kk_X8_isPiece := rfl
theorem u_X8_isPiece_0 {d : Nat} {ls : qL} {st : List qV} {h : qH} {R : qR} : Wp d 123 0 ls st h R ↔ qB (qdn Wp d) (fun lb ls st h => Wp d 123 lb ls st h R) R k_X8_isPiece_0 ls st h := Wp_u t_X8_isPiece rfl
theorem u_X8_isPiece_1 {d : Nat} {ls : qL} {st : List qV} {h : qH} {R : qR} : Wp d 123 1 ls st h R ↔ qB (qdn Wp d) (fun lb ls st h => Wp d 123 lb ls st h R) R k_X8_isPiece_1 ls st h := Wp_u t_X8_isPiece rfl
theorem u_X8_isPiece_2 {d : Nat} {ls : qL} {st : List qV} {h : qH} {R : qR} : Wp d 123 2 ls st h R ↔ qB (qdn Wp d) (fun lb ls st h => Wp d 123 lb ls st h R) R k_X8_isPiece_2 ls st h := Wp_u t_X8_isPiece rfl
set_option maxRecDepth 10000 in
theorem t_X8_isClear : qnth qTab 124 [] = kk_X8_isClear := rfl
theorem u_X8_isClear_0 {d : Nat} {ls : qL} {st : List qV} {h : qH} {R : qR} : Wp d 124 0 ls st h R ↔ qB (qdn Wp d) (fun lb ls st h => Wp d 124 lb ls st h R) R k_X8_isClear_0 ls st h := Wp_u t_X8_isClear rfl
theorem u_X8_isClear_1 {d : Nat} {ls : qL} {st : List qV} {h : qH} {R : qR} : Wp d 124 1 ls st h R ↔ qB (qdn Wp d) (fun lb ls st h => Wp d 124 lb ls st h R) R k_X8_isClear_1 ls st h := Wp_u t_X8_isClear rfl
theorem u_X8_isClear_2 {d : Nat} {ls : qL} {st : List qV} {h : qH} {R : qR} : Wp d 124 2 ls st h R ↔ qB (qdn Wp d) (fun lb ls st h => Wp d 124 lb ls st h R) R k_X8_isClear_2 ls st h := Wp_u t_X8_isClear rfl
theorem u_X8_isClear_3 {d : Nat} {ls : qL} {st : List qV} {h : qH} {R : qR} : Wp d 124 3 ls st h R ↔ qB (qdn Wp d) (fun lb ls st h => Wp d 124 lb ls st h R) R k_X8_isClear_3 ls st h := Wp_u t_X8_isClear rfl
theorem u_X8_isClear_4 {d : Nat} {ls : qL} {st : List qV} {h : qH} {R : qR} : Wp d 124 4 ls st h R ↔ qB (qdn Wp d) (fun lb ls st h => Wp d 124 lb ls st h R) R k_X8_isClear_4 ls st h := Wp_u t_X8_isClear rfl
theorem u_X8_isClear_5 {d : Nat} {ls : qL} {st : List qV} {h : qH} {R : qR} : Wp d 124 5 ls st h R ↔ qB (qdn Wp d) (fun lb ls st h => Wp d 124 lb ls st h R) R k_X8_isClear_5 ls st h := Wp_u t_X8_isClear rfl
set_option maxRecDepth 10000 in
theorem t_X8_fitsIn : qnth qTab 125 [] = kk_X8_fitsIn := rfl
theorem u_X8_fitsIn_0 {d : Nat} {ls : qL} {st : List qV} {h : qH} {R : qR} : Wp d 125 0 ls st h R ↔ qB (qdn Wp d) (fun lb ls st h => Wp d 125 lb ls st h R) R k_X8_fitsIn_0 ls st h := Wp_u t_X8_fitsIn rfl
theorem u_X8_fitsIn_1 {d : Nat} {ls : qL} {st : List qV} {h : qH} {R : qR} : Wp d 125 1 ls st h R ↔ qB (qdn Wp d) (fun lb ls st h => Wp d 125 lb ls st h R) R k_X8_fitsIn_1 ls st h := Wp_u t_X8_fitsIn rfl
theorem u_X8_fitsIn_2 {d : Nat} {ls : qL} {st : List qV} {h : qH} {R : qR} : Wp d 125 2 ls st h R ↔ qB (qdn Wp d) (fun lb ls st h => Wp d 125 lb ls st h R) R k_X8_fitsIn_2 ls st h := Wp_u t_X8_fitsIn rfl
theorem u_X8_fitsIn_3 {d : Nat} {ls : qL} {st : List qV} {h : qH} {R : qR} : Wp d 125 3 ls st h R ↔ qB (qdn Wp d) (fun lb ls st h => Wp d 125 lb ls st h R) R k_X8_fitsIn_3 ls st h := Wp_u t_X8_fitsIn rfl
theorem u_X8_fitsIn_4 {d : Nat} {ls : qL} {st : List qV} {h : qH} {R : qR} : Wp d 125 4 ls st h R ↔ qB (qdn Wp d) (fun lb ls st h => Wp d 125 lb ls st h R) R k_X8_fitsIn_4 ls st h := Wp_u t_X8_fitsIn rfl
set_option maxRecDepth 10000 in
theorem t_X8_plain : qnth qTab 126 [] = kk_X8_plain := rfl
theorem u_X8_plain_0 {d : Nat} {ls : qL} {st : List qV} {h : qH} {R : qR} : Wp d 126 0 ls st h R ↔ qB (qdn Wp d) (fun lb ls st h => Wp d 126 lb ls st h R) R k_X8_plain_0 ls st h := Wp_u t_X8_plain rfl
theorem u_X8_plain_1 {d : Nat} {ls : qL} {st : List qV} {h : qH} {R : qR} : Wp d 126 1 ls st h R ↔ qB (qdn Wp d) (fun lb ls st h => Wp d 126 lb ls st h R) R k_X8_plain_1 ls st h := Wp_u t_X8_plain rfl
theorem u_X8_plain_2 {d : Nat} {ls : qL} {st : List qV} {h : qH} {R : qR} : Wp d 126 2 ls st h R ↔ qB (qdn Wp d) (fun lb ls st h => Wp d 126 lb ls st h R) R k_X8_plain_2 ls st h := Wp_u t_X8_plain rfl
theorem u_X8_plain_3 {d : Nat} {ls : qL} {st : List qV} {h : qH} {R : qR} : Wp d 126 3 ls st h R ↔ qB (qdn Wp d) (fun lb ls st h => Wp d 126 lb ls st h R) R k_X8_plain_3 ls st h := Wp_u t_X8_plain rfl
set_option maxRecDepth 10000 in
theorem t_X8_cutBy : qnth qTab 127 [] = kk_X8_cutBy := rfl
theorem u_X8_cutBy_0 {d : Nat} {ls : qL} {st : List qV} {h : qH} {R : qR} : Wp d 127 0 ls st h R ↔ qB (qdn Wp d) (fun lb ls st h => Wp d 127 lb ls st h R) R k_X8_cutBy_0 ls st h := Wp_u t_X8_cutBy rfl
theorem u_X8_cutBy_1 {d : Nat} {ls : qL} {st : List qV} {h : qH} {R : qR} : Wp d 127 1 ls st h R ↔ qB (qdn Wp d) (fun lb ls st h => Wp d 127 lb ls st h R) R k_X8_cutBy_1 ls st h := Wp_u t_X8_cutBy rfl
theorem u_X8_cutBy_2 {d : Nat} {ls : qL} {st : List qV} {h : qH} {R : qR} : Wp d 127 2 ls st h R ↔ qB (qdn Wp d) (fun lb ls st h => Wp d 127 lb ls st h R) R k_X8_cutBy_2 ls st h := Wp_u t_X8_cutBy rfl
theorem u_X8_cutBy_3 {d : Nat} {ls : qL} {st : List qV} {h : qH} {R : qR} : Wp d 127 3 ls st h R ↔ qB (qdn Wp d) (fun lb ls st h => Wp d 127 lb ls st h R) R k_X8_cutBy_3 ls st h := Wp_u t_X8_cutBy rfl
theorem u_X8_cutBy_4 {d : Nat} {ls : qL} {st : List qV} {h : qH} {R : qR} : Wp d 127 4 ls st h R ↔ qB (qdn Wp d) (fun lb ls st h => Wp d 127 lb ls st h R) R k_X8_cutBy_4 ls st h := Wp_u t_X8_cutBy rfl
theorem u_X8_cutBy_5 {d : Nat} {ls : qL} {st : List qV} {h : qH} {R : qR} : Wp d 127 5 ls st h R ↔ qB (qdn Wp d) (fun lb ls st h => Wp d 127 lb ls st h R) R k_X8_cutBy_5 ls st h := Wp_u t_X8_cutBy rfl
set_option maxRecDepth 10000 in
theorem t_X8_measure : qnth qTab 128 [] = kk_X8_measure := rfl
theorem u_X8_measure_0 {d : Nat} {ls : qL} {st : List qV} {h : qH} {R : qR} : Wp d 128 0 ls st h R ↔ qB (qdn Wp d) (fun lb ls st h => Wp d 128 lb ls st h R) R k_X8_measure_0 ls st h := Wp_u t_X8_measure rfl
theorem u_X8_measure_1 {d : Nat} {ls : qL} {st : List qV} {h : qH} {R : qR} : Wp d 128 1 ls st h R ↔ qB (qdn Wp d) (fun lb ls st h => Wp d 128 lb ls st h R) R k_X8_measure_1 ls st h := Wp_u t_X8_measure rfl
theorem u_X8_measure_2 {d : Nat} {ls : qL} {st : List qV} {h : qH} {R : qR} : Wp d 128 2 ls st h R ↔ qB (qdn Wp d) (fun lb ls st h => Wp d 128 lb ls st h R) R k_X8_measure_2 ls st h := Wp_u t_X8_measure rfl
theorem u_X8_measure_3 {d : Nat} {ls : qL} {st : List qV} {h : qH} {R : qR} : Wp d 128 3 ls st h R ↔ qB (qdn Wp d) (fun lb ls st h => Wp d 128 lb ls st h R) R k_X8_measure_3 ls st h := Wp_u t_X8_measure rfl
theorem u_X8_measure_4 {d : Nat} {ls : qL} {st : List qV} {h : qH} {R : qR} : Wp d 128 4 ls st h R ↔ qB (qdn Wp d) (fun lb ls st h => Wp d 128 lb ls st h R) R k_X8_measure_4 ls st h := Wp_u t_X8_measure rfl
theorem u_X8_measure_5 {d : Nat} {ls : qL} {st : List qV} {h : qH} {R : qR} : Wp d 128 5 ls st h R ↔ qB (qdn Wp d) (fun lb ls st h => Wp d 128 lb ls st h R) R k_X8_measure_5 ls st h := Wp_u t_X8_measure rfl
theorem u_X8_measure_6 {d : Nat} {ls : qL} {st : List qV} {h : qH} {R : qR} : Wp d 128 6 ls st h R ↔ qB (qdn Wp d) (fun lb ls st h => Wp d 128 lb ls st h R) R k_X8_measure_6 ls st h := Wp_u t_X8_measure rfl
theorem u_X8_measure_7 {d : Nat} {ls : qL} {st : List qV} {h : qH} {R : qR} : Wp d 128 7 ls st h R ↔ qB (qdn Wp d) (fun lb ls st h => Wp d 128 lb ls st h R) R k_X8_measure_7 ls st h := Wp_u t_X8_measure rfl
theorem u_X8_measure_8 {d : Nat} {ls : qL} {st : List qV} {h : qH} {R : qR} : Wp d 128 8 ls st h R ↔ qB (qdn Wp d) (fun lb ls st h => Wp d 128 lb ls st h R) R k_X8_measure_8 ls st h := Wp_u t_X8_measure rfl
theorem u_X8_measure_9 {d : Nat} {ls : qL} {st : List qV} {h : qH} {R : qR} : Wp d 128 9 ls st h R ↔ qB (qdn Wp d) (fun lb ls st h => Wp d 128 lb ls st h R) R k_X8_measure_9 ls st h := Wp_u t_X8_measure rfl
theorem u_X8_measure_10 {d : Nat} {ls : qL} {st : List qV} {h : qH} {R : qR} : Wp d 128 10 ls st h R ↔ qB (qdn Wp d) (fun lb ls st h => Wp d 128 lb ls st h R) R k_X8_measure_10 ls st h := Wp_u t_X8_measure rfl
theorem u_X8_measure_11 {d : Nat} {ls : qL} {st : List qV} {h : qH} {R : qR} : Wp d 128 11 ls st h R ↔ qB (qdn Wp d) (fun lb ls st h => Wp d 128 lb ls st h R) R k_X8_measure_11 ls st h := Wp_u t_X8_measure rfl
theorem u_X8_measure_12 {d : Nat} {ls : qL} {st : List qV} {h : qH} {R : qR} : Wp d 128 12 ls st h R ↔ qB (qdn Wp d) (fun lb ls st h => Wp d 128 lb ls st h R) R k_X8_measure_12 ls st h := Wp_u t_X8_measure rfl
set_option maxRecDepth 10000 in
theorem t_X8_bestOfAll : qnth qTab 129 [] = kk_X8_bestOfAll := rfl
theorem u_X8_bestOfAll_0 {d : Nat} {ls : qL} {st : List qV} {h : qH} {R : qR} : Wp d 129 0 ls st h R ↔ qB (qdn Wp d) (fun lb ls st h => Wp d 129 lb ls st h R) R k_X8_bestOfAll_0 ls st h := Wp_u t_X8_bestOfAll rfl
set_option maxRecDepth 10000 in
theorem t_X8_best : qnth qTab 130 [] = kk_X8_best := rfl
theorem u_X8_best_0 {d : Nat} {ls : qL} {st : List qV} {h : qH} {R : qR} : Wp d 130 0 ls st h R ↔ qB (qdn Wp d) (fun lb ls st h => Wp d 130 lb ls st h R) R k_X8_best_0 ls st h := Wp_u t_X8_best rfl
theorem u_X8_best_1 {d : Nat} {ls : qL} {st : List qV} {h : qH} {R : qR} : Wp d 130 1 ls st h R ↔ qB (qdn Wp d) (fun lb ls st h => Wp d 130 lb ls st h R) R k_X8_best_1 ls st h := Wp_u t_X8_best rfl
set_option maxRecDepth 10000 in
theorem t_X8_is : qnth qTab 131 [] = kk_X8_is := rfl
theorem u_X8_is_0 {d : Nat} {ls : qL} {st : List qV} {h : qH} {R : qR} : Wp d 131 0 ls st h R ↔ qB (qdn Wp d) (fun lb ls st h => Wp d 131 lb ls st h R) R k_X8_is_0 ls st h := Wp_u t_X8_is rfl
theorem u_X8_is_1 {d : Nat} {ls : qL} {st : List qV} {h : qH} {R : qR} : Wp d 131 1 ls st h R ↔ qB (qdn Wp d) (fun lb ls st h => Wp d 131 lb ls st h R) R k_X8_is_1 ls st h := Wp_u t_X8_is rfl
theorem u_X8_is_2 {d : Nat} {ls : qL} {st : List qV} {h : qH} {R : qR} : Wp d 131 2 ls st h R ↔ qB (qdn Wp d) (fun lb ls st h => Wp d 131 lb ls st h R) R k_X8_is_2 ls st h := Wp_u t_X8_is rfl
theorem u_X8_is_3 {d : Nat} {ls : qL} {st : List qV} {h : qH} {R : qR} : Wp d 131 3 ls st h R ↔ qB (qdn Wp d) (fun lb ls st h => Wp d 131 lb ls st h R) R k_X8_is_3 ls st h := Wp_u t_X8_is rfl
theorem u_X8_is_4 {d : Nat} {ls : qL} {st : List qV} {h : qH} {R : qR} : Wp d 131 4 ls st h R ↔ qB (qdn Wp d) (fun lb ls st h => Wp d 131 lb ls st h R) R k_X8_is_4 ls st h := Wp_u t_X8_is rfl
set_option maxRecDepth 10000 in
theorem t_X8_cuts : qnth qTab 132 [] = kk_X8_cuts := rfl
theorem u_X8_cuts_0 {d : Nat} {ls : qL} {st : List qV} {h : qH} {R : qR} : Wp d 132 0 ls st h R ↔ qB (qdn Wp d) (fun lb ls st h => Wp d 132 lb ls st h R) R k_X8_cuts_0 ls st h := Wp_u t_X8_cuts rfl
set_option maxRecDepth 10000 in
theorem t_X8_partWorth : qnth qTab 133 [] = kk_X8_partWorth := rfl
theorem u_X8_partWorth_0 {d : Nat} {ls : qL} {st : List qV} {h : qH} {R : qR} : Wp d 133 0 ls st h R ↔ qB (qdn Wp d) (fun lb ls st h => Wp d 133 lb ls st h R) R k_X8_partWorth_0 ls st h := Wp_u t_X8_partWorth rfl
theorem u_X8_partWorth_1 {d : Nat} {ls : qL} {st : List qV} {h : qH} {R : qR} : Wp d 133 1 ls st h R ↔ qB (qdn Wp d) (fun lb ls st h => Wp d 133 lb ls st h R) R k_X8_partWorth_1 ls st h := Wp_u t_X8_partWorth rfl
theorem u_X8_partWorth_2 {d : Nat} {ls : qL} {st : List qV} {h : qH} {R : qR} : Wp d 133 2 ls st h R ↔ qB (qdn Wp d) (fun lb ls st h => Wp d 133 lb ls st h R) R k_X8_partWorth_2 ls st h := Wp_u t_X8_partWorth rfl
theorem u_X8_partWorth_3 {d : Nat} {ls : qL} {st : List qV} {h : qH} {R : qR} : Wp d 133 3 ls st h R ↔ qB (qdn Wp d) (fun lb ls st h => Wp d 133 lb ls st h R) R k_X8_partWorth_3 ls st h := Wp_u t_X8_partWorth rfl
set_option maxRecDepth 10000 in
theorem t_X8_grow : qnth qTab 134 [] = kk_X8_grow := rfl
theorem u_X8_grow_0 {d : Nat} {ls : qL} {st : List qV} {h : qH} {R : qR} : Wp d 134 0 ls st h R ↔ qB (qdn Wp d) (fun lb ls st h => Wp d 134 lb ls st h R) R k_X8_grow_0 ls st h := Wp_u t_X8_grow rfl
theorem u_X8_grow_1 {d : Nat} {ls : qL} {st : List qV} {h : qH} {R : qR} : Wp d 134 1 ls st h R ↔ qB (qdn Wp d) (fun lb ls st h => Wp d 134 lb ls st h R) R k_X8_grow_1 ls st h := Wp_u t_X8_grow rfl
theorem u_X8_grow_2 {d : Nat} {ls : qL} {st : List qV} {h : qH} {R : qR} : Wp d 134 2 ls st h R ↔ qB (qdn Wp d) (fun lb ls st h => Wp d 134 lb ls st h R) R k_X8_grow_2 ls st h := Wp_u t_X8_grow rfl
theorem u_X8_grow_3 {d : Nat} {ls : qL} {st : List qV} {h : qH} {R : qR} : Wp d 134 3 ls st h R ↔ qB (qdn Wp d) (fun lb ls st h => Wp d 134 lb ls st h R) R k_X8_grow_3 ls st h := Wp_u t_X8_grow rfl
theorem u_X8_grow_4 {d : Nat} {ls : qL} {st : List qV} {h : qH} {R : qR} : Wp d 134 4 ls st h R ↔ qB (qdn Wp d) (fun lb ls st h => Wp d 134 lb ls st h R) R k_X8_grow_4 ls st h := Wp_u t_X8_grow rfl
theorem u_X8_grow_5 {d : Nat} {ls : qL} {st : List qV} {h : qH} {R : qR} : Wp d 134 5 ls st h R ↔ qB (qdn Wp d) (fun lb ls st h => Wp d 134 lb ls st h R) R k_X8_grow_5 ls st h := Wp_u t_X8_grow rfl
theorem u_X8_grow_6 {d : Nat} {ls : qL} {st : List qV} {h : qH} {R : qR} : Wp d 134 6 ls st h R ↔ qB (qdn Wp d) (fun lb ls st h => Wp d 134 lb ls st h R) R k_X8_grow_6 ls st h := Wp_u t_X8_grow rfl
theorem u_X8_grow_7 {d : Nat} {ls : qL} {st : List qV} {h : qH} {R : qR} : Wp d 134 7 ls st h R ↔ qB (qdn Wp d) (fun lb ls st h => Wp d 134 lb ls st h R) R k_X8_grow_7 ls st h := Wp_u t_X8_grow rfl
theorem u_X8_grow_8 {d : Nat} {ls : qL} {st : List qV} {h : qH} {R : qR} : Wp d 134 8 ls st h R ↔ qB (qdn Wp d) (fun lb ls st h => Wp d 134 lb ls st h R) R k_X8_grow_8 ls st h := Wp_u t_X8_grow rfl
theorem u_X8_grow_9 {d : Nat} {ls : qL} {st : List qV} {h : qH} {R : qR} : Wp d 134 9 ls st h R ↔ qB (qdn Wp d) (fun lb ls st h => Wp d 134 lb ls st h R) R k_X8_grow_9 ls st h := Wp_u t_X8_grow rfl
theorem u_X8_grow_10 {d : Nat} {ls : qL} {st : List qV} {h : qH} {R : qR} : Wp d 134 10 ls st h R ↔ qB (qdn Wp d) (fun lb ls st h => Wp d 134 lb ls st h R) R k_X8_grow_10 ls st h := Wp_u t_X8_grow rfl
theorem u_X8_grow_11 {d : Nat} {ls : qL} {st : List qV} {h : qH} {R : qR} : Wp d 134 11 ls st h R ↔ qB (qdn Wp d) (fun lb ls st h => Wp d 134 lb ls st h R) R k_X8_grow_11 ls st h := Wp_u t_X8_grow rfl
theorem u_X8_grow_12 {d : Nat} {ls : qL} {st : List qV} {h : qH} {R : qR} : Wp d 134 12 ls st h R ↔ qB (qdn Wp d) (fun lb ls st h => Wp d 134 lb ls st h R) R k_X8_grow_12 ls st h := Wp_u t_X8_grow rfl
theorem u_X8_grow_13 {d : Nat} {ls : qL} {st : List qV} {h : qH} {R : qR} : Wp d 134 13 ls st h R ↔ qB (qdn Wp d) (fun lb ls st h => Wp d 134 lb ls st h R) R k_X8_grow_13 ls st h := Wp_u t_X8_grow rfl
theorem u_X8_grow_14 {d : Nat} {ls : qL} {st : List qV} {h : qH} {R : qR} : Wp d 134 14 ls st h R ↔ qB (qdn Wp d) (fun lb ls st h => Wp d 134 lb ls st h R) R k_X8_grow_14 ls st h := Wp_u t_X8_grow rfl
theorem u_X8_grow_15 {d : Nat} {ls : qL} {st : List qV} {h : qH} {R : qR} : Wp d 134 15 ls st h R ↔ qB (qdn Wp d) (fun lb ls st h => Wp d 134 lb ls st h R) R k_X8_grow_15 ls st h := Wp_u t_X8_grow rfl
set_option maxRecDepth 10000 in
theorem t_X8_usedOf : qnth qTab 135 [] = kk_X8_usedOf := rfl
theorem u_X8_usedOf_0 {d : Nat} {ls : qL} {st : List qV} {h : qH} {R : qR} : Wp d 135 0 ls st h R ↔ qB (qdn Wp d) (fun lb ls st h => Wp d 135 lb ls st h R) R k_X8_usedOf_0 ls st h := Wp_u t_X8_usedOf rfl
theorem u_X8_usedOf_1 {d : Nat} {ls : qL} {st : List qV} {h : qH} {R : qR} : Wp d 135 1 ls st h R ↔ qB (qdn Wp d) (fun lb ls st h => Wp d 135 lb ls st h R) R k_X8_usedOf_1 ls st h := Wp_u t_X8_usedOf rfl
theorem u_X8_usedOf_2 {d : Nat} {ls : qL} {st : List qV} {h : qH} {R : qR} : Wp d 135 2 ls st h R ↔ qB (qdn Wp d) (fun lb ls st h => Wp d 135 lb ls st h R) R k_X8_usedOf_2 ls st h := Wp_u t_X8_usedOf rfl
theorem u_X8_usedOf_3 {d : Nat} {ls : qL} {st : List qV} {h : qH} {R : qR} : Wp d 135 3 ls st h R ↔ qB (qdn Wp d) (fun lb ls st h => Wp d 135 lb ls st h R) R k_X8_usedOf_3 ls st h := Wp_u t_X8_usedOf rfl
set_option maxRecDepth 10000 in
theorem t_X8_parts : qnth qTab 136 [] = kk_X8_parts := rfl
theorem u_X8_parts_0 {d : Nat} {ls : qL} {st : List qV} {h : qH} {R : qR} : Wp d 136 0 ls st h R ↔ qB (qdn Wp d) (fun lb ls st h => Wp d 136 lb ls st h R) R k_X8_parts_0 ls st h := Wp_u t_X8_parts rfl
theorem u_X8_parts_1 {d : Nat} {ls : qL} {st : List qV} {h : qH} {R : qR} : Wp d 136 1 ls st h R ↔ qB (qdn Wp d) (fun lb ls st h => Wp d 136 lb ls st h R) R k_X8_parts_1 ls st h := Wp_u t_X8_parts rfl
theorem u_X8_parts_2 {d : Nat} {ls : qL} {st : List qV} {h : qH} {R : qR} : Wp d 136 2 ls st h R ↔ qB (qdn Wp d) (fun lb ls st h => Wp d 136 lb ls st h R) R k_X8_parts_2 ls st h := Wp_u t_X8_parts rfl
theorem u_X8_parts_3 {d : Nat} {ls : qL} {st : List qV} {h : qH} {R : qR} : Wp d 136 3 ls st h R ↔ qB (qdn Wp d) (fun lb ls st h => Wp d 136 lb ls st h R) R k_X8_parts_3 ls st h := Wp_u t_X8_parts rfl
set_option maxRecDepth 10000 in
theorem t_X8_cutOnes : qnth qTab 137 [] = kk_X8_cutOnes := rfl
theorem u_X8_cutOnes_0 {d : Nat} {ls : qL} {st : List qV} {h : qH} {R : qR} : Wp d 137 0 ls st h R ↔ qB (qdn Wp d) (fun lb ls st h => Wp d 137 lb ls st h R) R k_X8_cutOnes_0 ls st h := Wp_u t_X8_cutOnes rfl
theorem u_X8_cutOnes_1 {d : Nat} {ls : qL} {st : List qV} {h : qH} {R : qR} : Wp d 137 1 ls st h R ↔ qB (qdn Wp d) (fun lb ls st h => Wp d 137 lb ls st h R) R k_X8_cutOnes_1 ls st h := Wp_u t_X8_cutOnes rfl
theorem u_X8_cutOnes_2 {d : Nat} {ls : qL} {st : List qV} {h : qH} {R : qR} : Wp d 137 2 ls st h R ↔ qB (qdn Wp d) (fun lb ls st h => Wp d 137 lb ls st h R) R k_X8_cutOnes_2 ls st h := Wp_u t_X8_cutOnes rfl
theorem u_X8_cutOnes_3 {d : Nat} {ls : qL} {st : List qV} {h : qH} {R : qR} : Wp d 137 3 ls st h R ↔ qB (qdn Wp d) (fun lb ls st h => Wp d 137 lb ls st h R) R k_X8_cutOnes_3 ls st h := Wp_u t_X8_cutOnes rfl
set_option maxRecDepth 10000 in
theorem t_X8_wasted : qnth qTab 138 [] = kk_X8_wasted := rfl
theorem u_X8_wasted_0 {d : Nat} {ls : qL} {st : List qV} {h : qH} {R : qR} : Wp d 138 0 ls st h R ↔ qB (qdn Wp d) (fun lb ls st h => Wp d 138 lb ls st h R) R k_X8_wasted_0 ls st h := Wp_u t_X8_wasted rfl
theorem u_X8_wasted_1 {d : Nat} {ls : qL} {st : List qV} {h : qH} {R : qR} : Wp d 138 1 ls st h R ↔ qB (qdn Wp d) (fun lb ls st h => Wp d 138 lb ls st h R) R k_X8_wasted_1 ls st h := Wp_u t_X8_wasted rfl
theorem u_X8_wasted_2 {d : Nat} {ls : qL} {st : List qV} {h : qH} {R : qR} : Wp d 138 2 ls st h R ↔ qB (qdn Wp d) (fun lb ls st h => Wp d 138 lb ls st h R) R k_X8_wasted_2 ls st h := Wp_u t_X8_wasted rfl
theorem u_X8_wasted_3 {d : Nat} {ls : qL} {st : List qV} {h : qH} {R : qR} : Wp d 138 3 ls st h R ↔ qB (qdn Wp d) (fun lb ls st h => Wp d 138 lb ls st h R) R k_X8_wasted_3 ls st h := Wp_u t_X8_wasted rfl
set_option maxRecDepth 10000 in
theorem t_X8_deep : qnth qTab 139 [] = kk_X8_deep := rfl
theorem u_X8_deep_0 {d : Nat} {ls : qL} {st : List qV} {h : qH} {R : qR} : Wp d 139 0 ls st h R ↔ qB (qdn Wp d) (fun lb ls st h => Wp d 139 lb ls st h R) R k_X8_deep_0 ls st h := Wp_u t_X8_deep rfl
theorem u_X8_deep_1 {d : Nat} {ls : qL} {st : List qV} {h : qH} {R : qR} : Wp d 139 1 ls st h R ↔ qB (qdn Wp d) (fun lb ls st h => Wp d 139 lb ls st h R) R k_X8_deep_1 ls st h := Wp_u t_X8_deep rfl
theorem u_X8_deep_2 {d : Nat} {ls : qL} {st : List qV} {h : qH} {R : qR} : Wp d 139 2 ls st h R ↔ qB (qdn Wp d) (fun lb ls st h => Wp d 139 lb ls st h R) R k_X8_deep_2 ls st h := Wp_u t_X8_deep rfl
theorem u_X8_deep_3 {d : Nat} {ls : qL} {st : List qV} {h : qH} {R : qR} : Wp d 139 3 ls st h R ↔ qB (qdn Wp d) (fun lb ls st h => Wp d 139 lb ls st h R) R k_X8_deep_3 ls st h := Wp_u t_X8_deep rfl
theorem u_X8_deep_4 {d : Nat} {ls : qL} {st : List qV} {h : qH} {R : qR} : Wp d 139 4 ls st h R ↔ qB (qdn Wp d) (fun lb ls st h => Wp d 139 lb ls st h R) R k_X8_deep_4 ls st h := Wp_u t_X8_deep rfl
theorem u_X8_deep_5 {d : Nat} {ls : qL} {st : List qV} {h : qH} {R : qR} : Wp d 139 5 ls st h R ↔ qB (qdn Wp d) (fun lb ls st h => Wp d 139 lb ls st h R) R k_X8_deep_5 ls st h := Wp_u t_X8_deep rfl
set_option maxRecDepth 10000 in
theorem t_X8_told : qnth qTab 140 [] = kk_X8_told := rfl
theorem u_X8_told_0 {d : Nat} {ls : qL} {st : List qV} {h : qH} {R : qR} : Wp d 140 0 ls st h R ↔ qB (qdn Wp d) (fun lb ls st h => Wp d 140 lb ls st h R) R k_X8_told_0 ls st h := Wp_u t_X8_told rfl
theorem u_X8_told_1 {d : Nat} {ls : qL} {st : List qV} {h : qH} {R : qR} : Wp d 140 1 ls st h R ↔ qB (qdn Wp d) (fun lb ls st h => Wp d 140 lb ls st h R) R k_X8_told_1 ls st h := Wp_u t_X8_told rfl
theorem u_X8_told_2 {d : Nat} {ls : qL} {st : List qV} {h : qH} {R : qR} : Wp d 140 2 ls st h R ↔ qB (qdn Wp d) (fun lb ls st h => Wp d 140 lb ls st h R) R k_X8_told_2 ls st h := Wp_u t_X8_told rfl
theorem u_X8_told_3 {d : Nat} {ls : qL} {st : List qV} {h : qH} {R : qR} : Wp d 140 3 ls st h R ↔ qB (qdn Wp d) (fun lb ls st h => Wp d 140 lb ls st h R) R k_X8_told_3 ls st h := Wp_u t_X8_told rfl
theorem u_X8_told_4 {d : Nat} {ls : qL} {st : List qV} {h : qH} {R : qR} : Wp d 140 4 ls st h R ↔ qB (qdn Wp d) (fun lb ls st h => Wp d 140 lb ls st h R) R k_X8_told_4 ls st h := Wp_u t_X8_told rfl
theorem u_X8_told_5 {d : Nat} {ls : qL} {st : List qV} {h : qH} {R : qR} : Wp d 140 5 ls st h R ↔ qB (qdn Wp d) (fun lb ls st h => Wp d 140 lb ls st h R) R k_X8_told_5 ls st h := Wp_u t_X8_told rfl
theorem u_X8_told_6 {d : Nat} {ls : qL} {st : List qV} {h : qH} {R : qR} : Wp d 140 6 ls st h R ↔ qB (qdn Wp d) (fun lb ls st h => Wp d 140 lb ls st h R) R k_X8_told_6 ls st h := Wp_u t_X8_told rfl
theorem u_X8_told_7 {d : Nat} {ls : qL} {st : List qV} {h : qH} {R : qR} : Wp d 140 7 ls st h R ↔ qB (qdn Wp d) (fun lb ls st h => Wp d 140 lb ls st h R) R k_X8_told_7 ls st h := Wp_u t_X8_told rfl
theorem u_X8_told_8 {d : Nat} {ls : qL} {st : List qV} {h : qH} {R : qR} : Wp d 140 8 ls st h R ↔ qB (qdn Wp d) (fun lb ls st h => Wp d 140 lb ls st h R) R k_X8_told_8 ls st h := Wp_u t_X8_told rfl
theorem u_X8_told_9 {d : Nat} {ls : qL} {st : List qV} {h : qH} {R : qR} : Wp d 140 9 ls st h R ↔ qB (qdn Wp d) (fun lb ls st h => Wp d 140 lb ls st h R) R k_X8_told_9 ls st h := Wp_u t_X8_told rfl
set_option maxRecDepth 10000 in
theorem t_X8_node : qnth qTab 141 [] = kk_X8_node := rfl
theorem u_X8_node_0 {d : Nat} {ls : qL} {st : List qV} {h : qH} {R : qR} : Wp d 141 0 ls st h R ↔ qB (qdn Wp d) (fun lb ls st h => Wp d 141 lb ls st h R) R k_X8_node_0 ls st h := Wp_u t_X8_node rfl
theorem u_X8_node_1 {d : Nat} {ls : qL} {st : List qV} {h : qH} {R : qR} : Wp d 141 1 ls st h R ↔ qB (qdn Wp d) (fun lb ls st h => Wp d 141 lb ls st h R) R k_X8_node_1 ls st h := Wp_u t_X8_node rfl
theorem u_X8_node_2 {d : Nat} {ls : qL} {st : List qV} {h : qH} {R : qR} : Wp d 141 2 ls st h R ↔ qB (qdn Wp d) (fun lb ls st h => Wp d 141 lb ls st h R) R k_X8_node_2 ls st h := Wp_u t_X8_node rfl
set_option maxRecDepth 10000 in
theorem t_X8_picture : qnth qTab 142 [] = kk_X8_picture := rfl
theorem u_X8_picture_0 {d : Nat} {ls : qL} {st : List qV} {h : qH} {R : qR} : Wp d 142 0 ls st h R ↔ qB (qdn Wp d) (fun lb ls st h => Wp d 142 lb ls st h R) R k_X8_picture_0 ls st h := Wp_u t_X8_picture rfl
theorem u_X8_picture_1 {d : Nat} {ls : qL} {st : List qV} {h : qH} {R : qR} : Wp d 142 1 ls st h R ↔ qB (qdn Wp d) (fun lb ls st h => Wp d 142 lb ls st h R) R k_X8_picture_1 ls st h := Wp_u t_X8_picture rfl
theorem u_X8_picture_2 {d : Nat} {ls : qL} {st : List qV} {h : qH} {R : qR} : Wp d 142 2 ls st h R ↔ qB (qdn Wp d) (fun lb ls st h => Wp d 142 lb ls st h R) R k_X8_picture_2 ls st h := Wp_u t_X8_picture rfl
theorem u_X8_picture_3 {d : Nat} {ls : qL} {st : List qV} {h : qH} {R : qR} : Wp d 142 3 ls st h R ↔ qB (qdn Wp d) (fun lb ls st h => Wp d 142 lb ls st h R) R k_X8_picture_3 ls st h := Wp_u t_X8_picture rfl
theorem u_X8_picture_4 {d : Nat} {ls : qL} {st : List qV} {h : qH} {R : qR} : Wp d 142 4 ls st h R ↔ qB (qdn Wp d) (fun lb ls st h => Wp d 142 lb ls st h R) R k_X8_picture_4 ls st h := Wp_u t_X8_picture rfl
set_option maxRecDepth 10000 in
theorem t_X8_stage : qnth qTab 143 [] = kk_X8_stage := rfl
theorem u_X8_stage_0 {d : Nat} {ls : qL} {st : List qV} {h : qH} {R : qR} : Wp d 143 0 ls st h R ↔ qB (qdn Wp d) (fun lb ls st h => Wp d 143 lb ls st h R) R k_X8_stage_0 ls st h := Wp_u t_X8_stage rfl
theorem u_X8_stage_1 {d : Nat} {ls : qL} {st : List qV} {h : qH} {R : qR} : Wp d 143 1 ls st h R ↔ qB (qdn Wp d) (fun lb ls st h => Wp d 143 lb ls st h R) R k_X8_stage_1 ls st h := Wp_u t_X8_stage rfl
theorem u_X8_stage_2 {d : Nat} {ls : qL} {st : List qV} {h : qH} {R : qR} : Wp d 143 2 ls st h R ↔ qB (qdn Wp d) (fun lb ls st h => Wp d 143 lb ls st h R) R k_X8_stage_2 ls st h := Wp_u t_X8_stage rfl
theorem u_X8_stage_3 {d : Nat} {ls : qL} {st : List qV} {h : qH} {R : qR} : Wp d 143 3 ls st h R ↔ qB (qdn Wp d) (fun lb ls st h => Wp d 143 lb ls st h R) R k_X8_stage_3 ls st h := Wp_u t_X8_stage rfl
theorem u_X8_stage_4 {d : Nat} {ls : qL} {st : List qV} {h : qH} {R : qR} : Wp d 143 4 ls st h R ↔ qB (qdn Wp d) (fun lb ls st h => Wp d 143 lb ls st h R) R k_X8_stage_4 ls st h := Wp_u t_X8_stage rfl
theorem u_X8_stage_5 {d : Nat} {ls : qL} {st : List qV} {h : qH} {R : qR} : Wp d 143 5 ls st h R ↔ qB (qdn Wp d) (fun lb ls st h => Wp d 143 lb ls st h R) R k_X8_stage_5 ls st h := Wp_u t_X8_stage rfl
theorem u_X8_stage_6 {d : Nat} {ls : qL} {st : List qV} {h : qH} {R : qR} : Wp d 143 6 ls st h R ↔ qB (qdn Wp d) (fun lb ls st h => Wp d 143 lb ls st h R) R k_X8_stage_6 ls st h := Wp_u t_X8_stage rfl
theorem u_X8_stage_7 {d : Nat} {ls : qL} {st : List qV} {h : qH} {R : qR} : Wp d 143 7 ls st h R ↔ qB (qdn Wp d) (fun lb ls st h => Wp d 143 lb ls st h R) R k_X8_stage_7 ls st h := Wp_u t_X8_stage rfl
theorem u_X8_stage_8 {d : Nat} {ls : qL} {st : List qV} {h : qH} {R : qR} : Wp d 143 8 ls st h R ↔ qB (qdn Wp d) (fun lb ls st h => Wp d 143 lb ls st h R) R k_X8_stage_8 ls st h := Wp_u t_X8_stage rfl
theorem u_X8_stage_9 {d : Nat} {ls : qL} {st : List qV} {h : qH} {R : qR} : Wp d 143 9 ls st h R ↔ qB (qdn Wp d) (fun lb ls st h => Wp d 143 lb ls st h R) R k_X8_stage_9 ls st h := Wp_u t_X8_stage rfl
theorem u_X8_stage_10 {d : Nat} {ls : qL} {st : List qV} {h : qH} {R : qR} : Wp d 143 10 ls st h R ↔ qB (qdn Wp d) (fun lb ls st h => Wp d 143 lb ls st h R) R k_X8_stage_10 ls st h := Wp_u t_X8_stage rfl
theorem u_X8_stage_11 {d : Nat} {ls : qL} {st : List qV} {h : qH} {R : qR} : Wp d 143 11 ls st h R ↔ qB (qdn Wp d) (fun lb ls st h => Wp d 143 lb ls st h R) R k_X8_stage_11 ls st h := Wp_u t_X8_stage rfl
theorem u_X8_stage_12 {d : Nat} {ls : qL} {st : List qV} {h : qH} {R : qR} : Wp d 143 12 ls st h R ↔ qB (qdn Wp d) (fun lb ls st h => Wp d 143 lb ls st h R) R k_X8_stage_12 ls st h := Wp_u t_X8_stage rfl
set_option maxRecDepth 10000 in
theorem t_X8_staged : qnth qTab 144 [] = kk_X8_staged := rfl
theorem u_X8_staged_0 {d : Nat} {ls : qL} {st : List qV} {h : qH} {R : qR} : Wp d 144 0 ls st h R ↔ qB (qdn Wp d) (fun lb ls st h => Wp d 144 lb ls st h R) R k_X8_staged_0 ls st h := Wp_u t_X8_staged rfl
theorem u_X8_staged_1 {d : Nat} {ls : qL} {st : List qV} {h : qH} {R : qR} : Wp d 144 1 ls st h R ↔ qB (qdn Wp d) (fun lb ls st h => Wp d 144 lb ls st h R) R k_X8_staged_1 ls st h := Wp_u t_X8_staged rfl
theorem u_X8_staged_2 {d : Nat} {ls : qL} {st : List qV} {h : qH} {R : qR} : Wp d 144 2 ls st h R ↔ qB (qdn Wp d) (fun lb ls st h => Wp d 144 lb ls st h R) R k_X8_staged_2 ls st h := Wp_u t_X8_staged rfl
theorem u_X8_staged_3 {d : Nat} {ls : qL} {st : List qV} {h : qH} {R : qR} : Wp d 144 3 ls st h R ↔ qB (qdn Wp d) (fun lb ls st h => Wp d 144 lb ls st h R) R k_X8_staged_3 ls st h := Wp_u t_X8_staged rfl
theorem u_X8_staged_4 {d : Nat} {ls : qL} {st : List qV} {h : qH} {R : qR} : Wp d 144 4 ls st h R ↔ qB (qdn Wp d) (fun lb ls st h => Wp d 144 lb ls st h R) R k_X8_staged_4 ls st h := Wp_u t_X8_staged rfl
theorem u_X8_staged_5 {d : Nat} {ls : qL} {st : List qV} {h : qH} {R : qR} : Wp d 144 5 ls st h R ↔ qB (qdn Wp d) (fun lb ls st h => Wp d 144 lb ls st h R) R k_X8_staged_5 ls st h := Wp_u t_X8_staged rfl
theorem u_X8_staged_6 {d : Nat} {ls : qL} {st : List qV} {h : qH} {R : qR} : Wp d 144 6 ls st h R ↔ qB (qdn Wp d) (fun lb ls st h => Wp d 144 lb ls st h R) R k_X8_staged_6 ls st h := Wp_u t_X8_staged rfl
theorem u_X8_staged_7 {d : Nat} {ls : qL} {st : List qV} {h : qH} {R : qR} : Wp d 144 7 ls st h R ↔ qB (qdn Wp d) (fun lb ls st h => Wp d 144 lb ls st h R) R k_X8_staged_7 ls st h := Wp_u t_X8_staged rfl
theorem u_X8_staged_8 {d : Nat} {ls : qL} {st : List qV} {h : qH} {R : qR} : Wp d 144 8 ls st h R ↔ qB (qdn Wp d) (fun lb ls st h => Wp d 144 lb ls st h R) R k_X8_staged_8 ls st h := Wp_u t_X8_staged rfl
theorem u_X8_staged_9 {d : Nat} {ls : qL} {st : List qV} {h : qH} {R : qR} : Wp d 144 9 ls st h R ↔ qB (qdn Wp d) (fun lb ls st h => Wp d 144 lb ls st h R) R k_X8_staged_9 ls st h := Wp_u t_X8_staged rfl
theorem u_X8_staged_10 {d : Nat} {ls : qL} {st : List qV} {h : qH} {R : qR} : Wp d 144 10 ls st h R ↔ qB (qdn Wp d) (fun lb ls st h => Wp d 144 lb ls st h R) R k_X8_staged_10 ls st h := Wp_u t_X8_staged rfl
theorem u_X8_staged_11 {d : Nat} {ls : qL} {st : List qV} {h : qH} {R : qR} : Wp d 144 11 ls st h R ↔ qB (qdn Wp d) (fun lb ls st h => Wp d 144 lb ls st h R) R k_X8_staged_11 ls st h := Wp_u t_X8_staged rfl
theorem u_X8_staged_12 {d : Nat} {ls : qL} {st : List qV} {h : qH} {R : qR} : Wp d 144 12 ls st h R ↔ qB (qdn Wp d) (fun lb ls st h => Wp d 144 lb ls st h R) R k_X8_staged_12 ls st h := Wp_u t_X8_staged rfl
set_option maxRecDepth 10000 in
theorem t_X8_sizes : qnth qTab 145 [] = kk_X8_sizes := rfl
theorem u_X8_sizes_0 {d : Nat} {ls : qL} {st : List qV} {h : qH} {R : qR} : Wp d 145 0 ls st h R ↔ qB (qdn Wp d) (fun lb ls st h => Wp d 145 lb ls st h R) R k_X8_sizes_0 ls st h := Wp_u t_X8_sizes rfl
theorem u_X8_sizes_1 {d : Nat} {ls : qL} {st : List qV} {h : qH} {R : qR} : Wp d 145 1 ls st h R ↔ qB (qdn Wp d) (fun lb ls st h => Wp d 145 lb ls st h R) R k_X8_sizes_1 ls st h := Wp_u t_X8_sizes rfl
theorem u_X8_sizes_2 {d : Nat} {ls : qL} {st : List qV} {h : qH} {R : qR} : Wp d 145 2 ls st h R ↔ qB (qdn Wp d) (fun lb ls st h => Wp d 145 lb ls st h R) R k_X8_sizes_2 ls st h := Wp_u t_X8_sizes rfl
theorem u_X8_sizes_3 {d : Nat} {ls : qL} {st : List qV} {h : qH} {R : qR} : Wp d 145 3 ls st h R ↔ qB (qdn Wp d) (fun lb ls st h => Wp d 145 lb ls st h R) R k_X8_sizes_3 ls st h := Wp_u t_X8_sizes rfl
theorem u_X8_sizes_4 {d : Nat} {ls : qL} {st : List qV} {h : qH} {R : qR} : Wp d 145 4 ls st h R ↔ qB (qdn Wp d) (fun lb ls st h => Wp d 145 lb ls st h R) R k_X8_sizes_4 ls st h := Wp_u t_X8_sizes rfl
theorem u_X8_sizes_5 {d : Nat} {ls : qL} {st : List qV} {h : qH} {R : qR} : Wp d 145 5 ls st h R ↔ qB (qdn Wp d) (fun lb ls st h => Wp d 145 lb ls st h R) R k_X8_sizes_5 ls st h := Wp_u t_X8_sizes rfl
theorem u_X8_sizes_6 {d : Nat} {ls : qL} {st : List qV} {h : qH} {R : qR} : Wp d 145 6 ls st h R ↔ qB (qdn Wp d) (fun lb ls st h => Wp d 145 lb ls st h R) R k_X8_sizes_6 ls st h := Wp_u t_X8_sizes rfl
theorem u_X8_sizes_7 {d : Nat} {ls : qL} {st : List qV} {h : qH} {R : qR} : Wp d 145 7 ls st h R ↔ qB (qdn Wp d) (fun lb ls st h => Wp d 145 lb ls st h R) R k_X8_sizes_7 ls st h := Wp_u t_X8_sizes rfl
theorem u_X8_sizes_8 {d : Nat} {ls : qL} {st : List qV} {h : qH} {R : qR} : Wp d 145 8 ls st h R ↔ qB (qdn Wp d) (fun lb ls st h => Wp d 145 lb ls st h R) R k_X8_sizes_8 ls st h := Wp_u t_X8_sizes rfl
theorem u_X8_sizes_9 {d : Nat} {ls : qL} {st : List qV} {h : qH} {R : qR} : Wp d 145 9 ls st h R ↔ qB (qdn Wp d) (fun lb ls st h => Wp d 145 lb ls st h R) R k_X8_sizes_9 ls st h := Wp_u t_X8_sizes rfl
theorem u_X8_sizes_10 {d : Nat} {ls : qL} {st : List qV} {h : qH} {R : qR} : Wp d 145 10 ls st h R ↔ qB (qdn Wp d) (fun lb ls st h => Wp d 145 lb ls st h R) R k_X8_sizes_10 ls st h := Wp_u t_X8_sizes rfl
theorem u_X8_sizes_11 {d : Nat} {ls : qL} {st : List qV} {h : qH} {R : qR} : Wp d 145 11 ls st h R ↔ qB (qdn Wp d) (fun lb ls st h => Wp d 145 lb ls st h R) R k_X8_sizes_11 ls st h := Wp_u t_X8_sizes rfl
set_option maxRecDepth 10000 in
theorem t_X8_more : qnth qTab 146 [] = kk_X8_more := rfl
theorem u_X8_more_0 {d : Nat} {ls : qL} {st : List qV} {h : qH} {R : qR} : Wp d 146 0 ls st h R ↔ qB (qdn Wp d) (fun lb ls st h => Wp d 146 lb ls st h R) R k_X8_more_0 ls st h := Wp_u t_X8_more rfl
theorem u_X8_more_1 {d : Nat} {ls : qL} {st : List qV} {h : qH} {R : qR} : Wp d 146 1 ls st h R ↔ qB (qdn Wp d) (fun lb ls st h => Wp d 146 lb ls st h R) R k_X8_more_1 ls st h := Wp_u t_X8_more rfl
theorem u_X8_more_2 {d : Nat} {ls : qL} {st : List qV} {h : qH} {R : qR} : Wp d 146 2 ls st h R ↔ qB (qdn Wp d) (fun lb ls st h => Wp d 146 lb ls st h R) R k_X8_more_2 ls st h := Wp_u t_X8_more rfl
set_option maxRecDepth 10000 in
theorem t_X8_common : qnth qTab 147 [] = kk_X8_common := rfl
theorem u_X8_common_0 {d : Nat} {ls : qL} {st : List qV} {h : qH} {R : qR} : Wp d 147 0 ls st h R ↔ qB (qdn Wp d) (fun lb ls st h => Wp d 147 lb ls st h R) R k_X8_common_0 ls st h := Wp_u t_X8_common rfl
theorem u_X8_common_1 {d : Nat} {ls : qL} {st : List qV} {h : qH} {R : qR} : Wp d 147 1 ls st h R ↔ qB (qdn Wp d) (fun lb ls st h => Wp d 147 lb ls st h R) R k_X8_common_1 ls st h := Wp_u t_X8_common rfl
theorem u_X8_common_2 {d : Nat} {ls : qL} {st : List qV} {h : qH} {R : qR} : Wp d 147 2 ls st h R ↔ qB (qdn Wp d) (fun lb ls st h => Wp d 147 lb ls st h R) R k_X8_common_2 ls st h := Wp_u t_X8_common rfl
set_option maxRecDepth 10000 in
theorem t_X8_lowest : qnth qTab 148 [] = kk_X8_lowest := rfl
theorem u_X8_lowest_0 {d : Nat} {ls : qL} {st : List qV} {h : qH} {R : qR} : Wp d 148 0 ls st h R ↔ qB (qdn Wp d) (fun lb ls st h => Wp d 148 lb ls st h R) R k_X8_lowest_0 ls st h := Wp_u t_X8_lowest rfl
theorem u_X8_lowest_1 {d : Nat} {ls : qL} {st : List qV} {h : qH} {R : qR} : Wp d 148 1 ls st h R ↔ qB (qdn Wp d) (fun lb ls st h => Wp d 148 lb ls st h R) R k_X8_lowest_1 ls st h := Wp_u t_X8_lowest rfl
theorem u_X8_lowest_2 {d : Nat} {ls : qL} {st : List qV} {h : qH} {R : qR} : Wp d 148 2 ls st h R ↔ qB (qdn Wp d) (fun lb ls st h => Wp d 148 lb ls st h R) R k_X8_lowest_2 ls st h := Wp_u t_X8_lowest rfl
set_option maxRecDepth 10000 in
theorem t_X8_bound : qnth qTab 149 [] = kk_X8_bound := rfl
theorem u_X8_bound_0 {d : Nat} {ls : qL} {st : List qV} {h : qH} {R : qR} : Wp d 149 0 ls st h R ↔ qB (qdn Wp d) (fun lb ls st h => Wp d 149 lb ls st h R) R k_X8_bound_0 ls st h := Wp_u t_X8_bound rfl
theorem u_X8_bound_1 {d : Nat} {ls : qL} {st : List qV} {h : qH} {R : qR} : Wp d 149 1 ls st h R ↔ qB (qdn Wp d) (fun lb ls st h => Wp d 149 lb ls st h R) R k_X8_bound_1 ls st h := Wp_u t_X8_bound rfl
theorem u_X8_bound_2 {d : Nat} {ls : qL} {st : List qV} {h : qH} {R : qR} : Wp d 149 2 ls st h R ↔ qB (qdn Wp d) (fun lb ls st h => Wp d 149 lb ls st h R) R k_X8_bound_2 ls st h := Wp_u t_X8_bound rfl
theorem u_X8_bound_3 {d : Nat} {ls : qL} {st : List qV} {h : qH} {R : qR} : Wp d 149 3 ls st h R ↔ qB (qdn Wp d) (fun lb ls st h => Wp d 149 lb ls st h R) R k_X8_bound_3 ls st h := Wp_u t_X8_bound rfl
theorem u_X8_bound_4 {d : Nat} {ls : qL} {st : List qV} {h : qH} {R : qR} : Wp d 149 4 ls st h R ↔ qB (qdn Wp d) (fun lb ls st h => Wp d 149 lb ls st h R) R k_X8_bound_4 ls st h := Wp_u t_X8_bound rfl
theorem u_X8_bound_5 {d : Nat} {ls : qL} {st : List qV} {h : qH} {R : qR} : Wp d 149 5 ls st h R ↔ qB (qdn Wp d) (fun lb ls st h => Wp d 149 lb ls st h R) R k_X8_bound_5 ls st h := Wp_u t_X8_bound rfl
set_option maxRecDepth 10000 in
theorem t_X8_comes : qnth qTab 150 [] = kk_X8_comes := rfl
theorem u_X8_comes_0 {d : Nat} {ls : qL} {st : List qV} {h : qH} {R : qR} : Wp d 150 0 ls st h R ↔ qB (qdn Wp d) (fun lb ls st h => Wp d 150 lb ls st h R) R k_X8_comes_0 ls st h := Wp_u t_X8_comes rfl
theorem u_X8_comes_1 {d : Nat} {ls : qL} {st : List qV} {h : qH} {R : qR} : Wp d 150 1 ls st h R ↔ qB (qdn Wp d) (fun lb ls st h => Wp d 150 lb ls st h R) R k_X8_comes_1 ls st h := Wp_u t_X8_comes rfl
theorem u_X8_comes_2 {d : Nat} {ls : qL} {st : List qV} {h : qH} {R : qR} : Wp d 150 2 ls st h R ↔ qB (qdn Wp d) (fun lb ls st h => Wp d 150 lb ls st h R) R k_X8_comes_2 ls st h := Wp_u t_X8_comes rfl
theorem u_X8_comes_3 {d : Nat} {ls : qL} {st : List qV} {h : qH} {R : qR} : Wp d 150 3 ls st h R ↔ qB (qdn Wp d) (fun lb ls st h => Wp d 150 lb ls st h R) R k_X8_comes_3 ls st h := Wp_u t_X8_comes rfl
theorem u_X8_comes_4 {d : Nat} {ls : qL} {st : List qV} {h : qH} {R : qR} : Wp d 150 4 ls st h R ↔ qB (qdn Wp d) (fun lb ls st h => Wp d 150 lb ls st h R) R k_X8_comes_4 ls st h := Wp_u t_X8_comes rfl
set_option maxRecDepth 10000 in
theorem t_X8_see : qnth qTab 151 [] = kk_X8_see := rfl
theorem u_X8_see_0 {d : Nat} {ls : qL} {st : List qV} {h : qH} {R : qR} : Wp d 151 0 ls st h R ↔ qB (qdn Wp d) (fun lb ls st h => Wp d 151 lb ls st h R) R k_X8_see_0 ls st h := Wp_u t_X8_see rfl
set_option maxRecDepth 10000 in
theorem t_X8_isSeen : qnth qTab 152 [] = kk_X8_isSeen := rfl
theorem u_X8_isSeen_0 {d : Nat} {ls : qL} {st : List qV} {h : qH} {R : qR} : Wp d 152 0 ls st h R ↔ qB (qdn Wp d) (fun lb ls st h => Wp d 152 lb ls st h R) R k_X8_isSeen_0 ls st h := Wp_u t_X8_isSeen rfl
theorem u_X8_isSeen_1 {d : Nat} {ls : qL} {st : List qV} {h : qH} {R : qR} : Wp d 152 1 ls st h R ↔ qB (qdn Wp d) (fun lb ls st h => Wp d 152 lb ls st h R) R k_X8_isSeen_1 ls st h := Wp_u t_X8_isSeen rfl
theorem u_X8_isSeen_2 {d : Nat} {ls : qL} {st : List qV} {h : qH} {R : qR} : Wp d 152 2 ls st h R ↔ qB (qdn Wp d) (fun lb ls st h => Wp d 152 lb ls st h R) R k_X8_isSeen_2 ls st h := Wp_u t_X8_isSeen rfl
theorem u_X8_isSeen_3 {d : Nat} {ls : qL} {st : List qV} {h : qH} {R : qR} : Wp d 152 3 ls st h R ↔ qB (qdn Wp d) (fun lb ls st h => Wp d 152 lb ls st h R) R k_X8_isSeen_3 ls st h := Wp_u t_X8_isSeen rfl
set_option maxRecDepth 10000 in
theorem t_X8_fits : qnth qTab 153 [] = kk_X8_fits := rfl
theorem u_X8_fits_0 {d : Nat} {ls : qL} {st : List qV} {h : qH} {R : qR} : Wp d 153 0 ls st h R ↔ qB (qdn Wp d) (fun lb ls st h => Wp d 153 lb ls st h R) R k_X8_fits_0 ls st h := Wp_u t_X8_fits rfl
theorem u_X8_fits_1 {d : Nat} {ls : qL} {st : List qV} {h : qH} {R : qR} : Wp d 153 1 ls st h R ↔ qB (qdn Wp d) (fun lb ls st h => Wp d 153 lb ls st h R) R k_X8_fits_1 ls st h := Wp_u t_X8_fits rfl
theorem u_X8_fits_2 {d : Nat} {ls : qL} {st : List qV} {h : qH} {R : qR} : Wp d 153 2 ls st h R ↔ qB (qdn Wp d) (fun lb ls st h => Wp d 153 lb ls st h R) R k_X8_fits_2 ls st h := Wp_u t_X8_fits rfl
theorem u_X8_fits_3 {d : Nat} {ls : qL} {st : List qV} {h : qH} {R : qR} : Wp d 153 3 ls st h R ↔ qB (qdn Wp d) (fun lb ls st h => Wp d 153 lb ls st h R) R k_X8_fits_3 ls st h := Wp_u t_X8_fits rfl
theorem u_X8_fits_4 {d : Nat} {ls : qL} {st : List qV} {h : qH} {R : qR} : Wp d 153 4 ls st h R ↔ qB (qdn Wp d) (fun lb ls st h => Wp d 153 lb ls st h R) R k_X8_fits_4 ls st h := Wp_u t_X8_fits rfl
theorem u_X8_fits_5 {d : Nat} {ls : qL} {st : List qV} {h : qH} {R : qR} : Wp d 153 5 ls st h R ↔ qB (qdn Wp d) (fun lb ls st h => Wp d 153 lb ls st h R) R k_X8_fits_5 ls st h := Wp_u t_X8_fits rfl
theorem u_X8_fits_6 {d : Nat} {ls : qL} {st : List qV} {h : qH} {R : qR} : Wp d 153 6 ls st h R ↔ qB (qdn Wp d) (fun lb ls st h => Wp d 153 lb ls st h R) R k_X8_fits_6 ls st h := Wp_u t_X8_fits rfl
theorem u_X8_fits_7 {d : Nat} {ls : qL} {st : List qV} {h : qH} {R : qR} : Wp d 153 7 ls st h R ↔ qB (qdn Wp d) (fun lb ls st h => Wp d 153 lb ls st h R) R k_X8_fits_7 ls st h := Wp_u t_X8_fits rfl
set_option maxRecDepth 10000 in
theorem t_X8_odds : qnth qTab 154 [] = kk_X8_odds := rfl
theorem u_X8_odds_0 {d : Nat} {ls : qL} {st : List qV} {h : qH} {R : qR} : Wp d 154 0 ls st h R ↔ qB (qdn Wp d) (fun lb ls st h => Wp d 154 lb ls st h R) R k_X8_odds_0 ls st h := Wp_u t_X8_odds rfl
theorem u_X8_odds_1 {d : Nat} {ls : qL} {st : List qV} {h : qH} {R : qR} : Wp d 154 1 ls st h R ↔ qB (qdn Wp d) (fun lb ls st h => Wp d 154 lb ls st h R) R k_X8_odds_1 ls st h := Wp_u t_X8_odds rfl
theorem u_X8_odds_2 {d : Nat} {ls : qL} {st : List qV} {h : qH} {R : qR} : Wp d 154 2 ls st h R ↔ qB (qdn Wp d) (fun lb ls st h => Wp d 154 lb ls st h R) R k_X8_odds_2 ls st h := Wp_u t_X8_odds rfl
theorem u_X8_odds_3 {d : Nat} {ls : qL} {st : List qV} {h : qH} {R : qR} : Wp d 154 3 ls st h R ↔ qB (qdn Wp d) (fun lb ls st h => Wp d 154 lb ls st h R) R k_X8_odds_3 ls st h := Wp_u t_X8_odds rfl
theorem u_X8_odds_4 {d : Nat} {ls : qL} {st : List qV} {h : qH} {R : qR} : Wp d 154 4 ls st h R ↔ qB (qdn Wp d) (fun lb ls st h => Wp d 154 lb ls st h R) R k_X8_odds_4 ls st h := Wp_u t_X8_odds rfl
theorem u_X8_odds_5 {d : Nat} {ls : qL} {st : List qV} {h : qH} {R : qR} : Wp d 154 5 ls st h R ↔ qB (qdn Wp d) (fun lb ls st h => Wp d 154 lb ls st h R) R k_X8_odds_5 ls st h := Wp_u t_X8_odds rfl
set_option maxRecDepth 10000 in
theorem t_X8_mean : qnth qTab 155 [] = kk_X8_mean := rfl
theorem u_X8_mean_0 {d : Nat} {ls : qL} {st : List qV} {h : qH} {R : qR} : Wp d 155 0 ls st h R ↔ qB (qdn Wp d) (fun lb ls st h => Wp d 155 lb ls st h R) R k_X8_mean_0 ls st h := Wp_u t_X8_mean rfl
theorem u_X8_mean_1 {d : Nat} {ls : qL} {st : List qV} {h : qH} {R : qR} : Wp d 155 1 ls st h R ↔ qB (qdn Wp d) (fun lb ls st h => Wp d 155 lb ls st h R) R k_X8_mean_1 ls st h := Wp_u t_X8_mean rfl
theorem u_X8_mean_2 {d : Nat} {ls : qL} {st : List qV} {h : qH} {R : qR} : Wp d 155 2 ls st h R ↔ qB (qdn Wp d) (fun lb ls st h => Wp d 155 lb ls st h R) R k_X8_mean_2 ls st h := Wp_u t_X8_mean rfl
theorem u_X8_mean_3 {d : Nat} {ls : qL} {st : List qV} {h : qH} {R : qR} : Wp d 155 3 ls st h R ↔ qB (qdn Wp d) (fun lb ls st h => Wp d 155 lb ls st h R) R k_X8_mean_3 ls st h := Wp_u t_X8_mean rfl
set_option maxRecDepth 10000 in
theorem t_X8_event : qnth qTab 156 [] = kk_X8_event := rfl
theorem u_X8_event_0 {d : Nat} {ls : qL} {st : List qV} {h : qH} {R : qR} : Wp d 156 0 ls st h R ↔ qB (qdn Wp d) (fun lb ls st h => Wp d 156 lb ls st h R) R k_X8_event_0 ls st h := Wp_u t_X8_event rfl
theorem u_X8_event_1 {d : Nat} {ls : qL} {st : List qV} {h : qH} {R : qR} : Wp d 156 1 ls st h R ↔ qB (qdn Wp d) (fun lb ls st h => Wp d 156 lb ls st h R) R k_X8_event_1 ls st h := Wp_u t_X8_event rfl
theorem u_X8_event_2 {d : Nat} {ls : qL} {st : List qV} {h : qH} {R : qR} : Wp d 156 2 ls st h R ↔ qB (qdn Wp d) (fun lb ls st h => Wp d 156 lb ls st h R) R k_X8_event_2 ls st h := Wp_u t_X8_event rfl
theorem u_X8_event_3 {d : Nat} {ls : qL} {st : List qV} {h : qH} {R : qR} : Wp d 156 3 ls st h R ↔ qB (qdn Wp d) (fun lb ls st h => Wp d 156 lb ls st h R) R k_X8_event_3 ls st h := Wp_u t_X8_event rfl
theorem u_X8_event_4 {d : Nat} {ls : qL} {st : List qV} {h : qH} {R : qR} : Wp d 156 4 ls st h R ↔ qB (qdn Wp d) (fun lb ls st h => Wp d 156 lb ls st h R) R k_X8_event_4 ls st h := Wp_u t_X8_event rfl
theorem u_X8_event_5 {d : Nat} {ls : qL} {st : List qV} {h : qH} {R : qR} : Wp d 156 5 ls st h R ↔ qB (qdn Wp d) (fun lb ls st h => Wp d 156 lb ls st h R) R k_X8_event_5 ls st h := Wp_u t_X8_event rfl
theorem u_X8_event_6 {d : Nat} {ls : qL} {st : List qV} {h : qH} {R : qR} : Wp d 156 6 ls st h R ↔ qB (qdn Wp d) (fun lb ls st h => Wp d 156 lb ls st h R) R k_X8_event_6 ls st h := Wp_u t_X8_event rfl
set_option maxRecDepth 10000 in
theorem t_X8_happens : qnth qTab 157 [] = kk_X8_happens := rfl
theorem u_X8_happens_0 {d : Nat} {ls : qL} {st : List qV} {h : qH} {R : qR} : Wp d 157 0 ls st h R ↔ qB (qdn Wp d) (fun lb ls st h => Wp d 157 lb ls st h R) R k_X8_happens_0 ls st h := Wp_u t_X8_happens rfl
theorem u_X8_happens_1 {d : Nat} {ls : qL} {st : List qV} {h : qH} {R : qR} : Wp d 157 1 ls st h R ↔ qB (qdn Wp d) (fun lb ls st h => Wp d 157 lb ls st h R) R k_X8_happens_1 ls st h := Wp_u t_X8_happens rfl
theorem u_X8_happens_2 {d : Nat} {ls : qL} {st : List qV} {h : qH} {R : qR} : Wp d 157 2 ls st h R ↔ qB (qdn Wp d) (fun lb ls st h => Wp d 157 lb ls st h R) R k_X8_happens_2 ls st h := Wp_u t_X8_happens rfl
theorem u_X8_happens_3 {d : Nat} {ls : qL} {st : List qV} {h : qH} {R : qR} : Wp d 157 3 ls st h R ↔ qB (qdn Wp d) (fun lb ls st h => Wp d 157 lb ls st h R) R k_X8_happens_3 ls st h := Wp_u t_X8_happens rfl
theorem u_X8_happens_4 {d : Nat} {ls : qL} {st : List qV} {h : qH} {R : qR} : Wp d 157 4 ls st h R ↔ qB (qdn Wp d) (fun lb ls st h => Wp d 157 lb ls st h R) R k_X8_happens_4 ls st h := Wp_u t_X8_happens rfl
set_option maxRecDepth 10000 in
theorem t_X8_after : qnth qTab 158 [] = kk_X8_after := rfl
theorem u_X8_after_0 {d : Nat} {ls : qL} {st : List qV} {h : qH} {R : qR} : Wp d 158 0 ls st h R ↔ qB (qdn Wp d) (fun lb ls st h => Wp d 158 lb ls st h R) R k_X8_after_0 ls st h := Wp_u t_X8_after rfl
theorem u_X8_after_1 {d : Nat} {ls : qL} {st : List qV} {h : qH} {R : qR} : Wp d 158 1 ls st h R ↔ qB (qdn Wp d) (fun lb ls st h => Wp d 158 lb ls st h R) R k_X8_after_1 ls st h := Wp_u t_X8_after rfl
theorem u_X8_after_2 {d : Nat} {ls : qL} {st : List qV} {h : qH} {R : qR} : Wp d 158 2 ls st h R ↔ qB (qdn Wp d) (fun lb ls st h => Wp d 158 lb ls st h R) R k_X8_after_2 ls st h := Wp_u t_X8_after rfl
theorem u_X8_after_3 {d : Nat} {ls : qL} {st : List qV} {h : qH} {R : qR} : Wp d 158 3 ls st h R ↔ qB (qdn Wp d) (fun lb ls st h => Wp d 158 lb ls st h R) R k_X8_after_3 ls st h := Wp_u t_X8_after rfl
theorem u_X8_after_4 {d : Nat} {ls : qL} {st : List qV} {h : qH} {R : qR} : Wp d 158 4 ls st h R ↔ qB (qdn Wp d) (fun lb ls st h => Wp d 158 lb ls st h R) R k_X8_after_4 ls st h := Wp_u t_X8_after rfl
theorem u_X8_after_5 {d : Nat} {ls : qL} {st : List qV} {h : qH} {R : qR} : Wp d 158 5 ls st h R ↔ qB (qdn Wp d) (fun lb ls st h => Wp d 158 lb ls st h R) R k_X8_after_5 ls st h := Wp_u t_X8_after rfl
theorem u_X8_after_6 {d : Nat} {ls : qL} {st : List qV} {h : qH} {R : qR} : Wp d 158 6 ls st h R ↔ qB (qdn Wp d) (fun lb ls st h => Wp d 158 lb ls st h R) R k_X8_after_6 ls st h := Wp_u t_X8_after rfl
set_option maxRecDepth 10000 in
theorem t_X8_book : qnth qTab 159 [] = kk_X8_book := rfl
theorem u_X8_book_0 {d : Nat} {ls : qL} {st : List qV} {h : qH} {R : qR} : Wp d 159 0 ls st h R ↔ qB (qdn Wp d) (fun lb ls st h => Wp d 159 lb ls st h R) R k_X8_book_0 ls st h := Wp_u t_X8_book rfl
set_option maxRecDepth 10000 in
theorem t_X8_looked : qnth qTab 160 [] = kk_X8_looked := rfl
theorem u_X8_looked_0 {d : Nat} {ls : qL} {st : List qV} {h : qH} {R : qR} : Wp d 160 0 ls st h R ↔ qB (qdn Wp d) (fun lb ls st h => Wp d 160 lb ls st h R) R k_X8_looked_0 ls st h := Wp_u t_X8_looked rfl
theorem u_X8_looked_1 {d : Nat} {ls : qL} {st : List qV} {h : qH} {R : qR} : Wp d 160 1 ls st h R ↔ qB (qdn Wp d) (fun lb ls st h => Wp d 160 lb ls st h R) R k_X8_looked_1 ls st h := Wp_u t_X8_looked rfl
theorem u_X8_looked_2 {d : Nat} {ls : qL} {st : List qV} {h : qH} {R : qR} : Wp d 160 2 ls st h R ↔ qB (qdn Wp d) (fun lb ls st h => Wp d 160 lb ls st h R) R k_X8_looked_2 ls st h := Wp_u t_X8_looked rfl
theorem u_X8_looked_3 {d : Nat} {ls : qL} {st : List qV} {h : qH} {R : qR} : Wp d 160 3 ls st h R ↔ qB (qdn Wp d) (fun lb ls st h => Wp d 160 lb ls st h R) R k_X8_looked_3 ls st h := Wp_u t_X8_looked rfl
set_option maxRecDepth 10000 in
theorem t_X8_isTape : qnth qTab 161 [] = kk_X8_isTape := rfl
theorem u_X8_isTape_0 {d : Nat} {ls : qL} {st : List qV} {h : qH} {R : qR} : Wp d 161 0 ls st h R ↔ qB (qdn Wp d) (fun lb ls st h => Wp d 161 lb ls st h R) R k_X8_isTape_0 ls st h := Wp_u t_X8_isTape rfl
set_option maxRecDepth 10000 in
theorem t_X8_judge : qnth qTab 162 [] = kk_X8_judge := rfl
theorem u_X8_judge_0 {d : Nat} {ls : qL} {st : List qV} {h : qH} {R : qR} : Wp d 162 0 ls st h R ↔ qB (qdn Wp d) (fun lb ls st h => Wp d 162 lb ls st h R) R k_X8_judge_0 ls st h := Wp_u t_X8_judge rfl
theorem u_X8_judge_1 {d : Nat} {ls : qL} {st : List qV} {h : qH} {R : qR} : Wp d 162 1 ls st h R ↔ qB (qdn Wp d) (fun lb ls st h => Wp d 162 lb ls st h R) R k_X8_judge_1 ls st h := Wp_u t_X8_judge rfl
theorem u_X8_judge_2 {d : Nat} {ls : qL} {st : List qV} {h : qH} {R : qR} : Wp d 162 2 ls st h R ↔ qB (qdn Wp d) (fun lb ls st h => Wp d 162 lb ls st h R) R k_X8_judge_2 ls st h := Wp_u t_X8_judge rfl
theorem u_X8_judge_3 {d : Nat} {ls : qL} {st : List qV} {h : qH} {R : qR} : Wp d 162 3 ls st h R ↔ qB (qdn Wp d) (fun lb ls st h => Wp d 162 lb ls st h R) R k_X8_judge_3 ls st h := Wp_u t_X8_judge rfl
theorem u_X8_judge_4 {d : Nat} {ls : qL} {st : List qV} {h : qH} {R : qR} : Wp d 162 4 ls st h R ↔ qB (qdn Wp d) (fun lb ls st h => Wp d 162 lb ls st h R) R k_X8_judge_4 ls st h := Wp_u t_X8_judge rfl
theorem u_X8_judge_5 {d : Nat} {ls : qL} {st : List qV} {h : qH} {R : qR} : Wp d 162 5 ls st h R ↔ qB (qdn Wp d) (fun lb ls st h => Wp d 162 lb ls st h R) R k_X8_judge_5 ls st h := Wp_u t_X8_judge rfl
theorem u_X8_judge_6 {d : Nat} {ls : qL} {st : List qV} {h : qH} {R : qR} : Wp d 162 6 ls st h R ↔ qB (qdn Wp d) (fun lb ls st h => Wp d 162 lb ls st h R) R k_X8_judge_6 ls st h := Wp_u t_X8_judge rfl
theorem u_X8_judge_7 {d : Nat} {ls : qL} {st : List qV} {h : qH} {R : qR} : Wp d 162 7 ls st h R ↔ qB (qdn Wp d) (fun lb ls st h => Wp d 162 lb ls st h R) R k_X8_judge_7 ls st h := Wp_u t_X8_judge rfl
theorem u_X8_judge_8 {d : Nat} {ls : qL} {st : List qV} {h : qH} {R : qR} : Wp d 162 8 ls st h R ↔ qB (qdn Wp d) (fun lb ls st h => Wp d 162 lb ls st h R) R k_X8_judge_8 ls st h := Wp_u t_X8_judge rfl
theorem u_X8_judge_9 {d : Nat} {ls : qL} {st : List qV} {h : qH} {R : qR} : Wp d 162 9 ls st h R ↔ qB (qdn Wp d) (fun lb ls st h => Wp d 162 lb ls st h R) R k_X8_judge_9 ls st h := Wp_u t_X8_judge rfl
theorem u_X8_judge_10 {d : Nat} {ls : qL} {st : List qV} {h : qH} {R : qR} : Wp d 162 10 ls st h R ↔ qB (qdn Wp d) (fun lb ls st h => Wp d 162 lb ls st h R) R k_X8_judge_10 ls st h := Wp_u t_X8_judge rfl
set_option maxRecDepth 10000 in
theorem t_X8_image : qnth qTab 163 [] = kk_X8_image := rfl
theorem u_X8_image_0 {d : Nat} {ls : qL} {st : List qV} {h : qH} {R : qR} : Wp d 163 0 ls st h R ↔ qB (qdn Wp d) (fun lb ls st h => Wp d 163 lb ls st h R) R k_X8_image_0 ls st h := Wp_u t_X8_image rfl
set_option maxRecDepth 10000 in
theorem t_X8_undo : qnth qTab 164 [] = kk_X8_undo := rfl
theorem u_X8_undo_0 {d : Nat} {ls : qL} {st : List qV} {h : qH} {R : qR} : Wp d 164 0 ls st h R ↔ qB (qdn Wp d) (fun lb ls st h => Wp d 164 lb ls st h R) R k_X8_undo_0 ls st h := Wp_u t_X8_undo rfl
theorem u_X8_undo_1 {d : Nat} {ls : qL} {st : List qV} {h : qH} {R : qR} : Wp d 164 1 ls st h R ↔ qB (qdn Wp d) (fun lb ls st h => Wp d 164 lb ls st h R) R k_X8_undo_1 ls st h := Wp_u t_X8_undo rfl
set_option maxRecDepth 10000 in
theorem t_X8_count : qnth qTab 165 [] = kk_X8_count := rfl
theorem u_X8_count_0 {d : Nat} {ls : qL} {st : List qV} {h : qH} {R : qR} : Wp d 165 0 ls st h R ↔ qB (qdn Wp d) (fun lb ls st h => Wp d 165 lb ls st h R) R k_X8_count_0 ls st h := Wp_u t_X8_count rfl
theorem u_X8_count_1 {d : Nat} {ls : qL} {st : List qV} {h : qH} {R : qR} : Wp d 165 1 ls st h R ↔ qB (qdn Wp d) (fun lb ls st h => Wp d 165 lb ls st h R) R k_X8_count_1 ls st h := Wp_u t_X8_count rfl
theorem u_X8_count_2 {d : Nat} {ls : qL} {st : List qV} {h : qH} {R : qR} : Wp d 165 2 ls st h R ↔ qB (qdn Wp d) (fun lb ls st h => Wp d 165 lb ls st h R) R k_X8_count_2 ls st h := Wp_u t_X8_count rfl
theorem u_X8_count_3 {d : Nat} {ls : qL} {st : List qV} {h : qH} {R : qR} : Wp d 165 3 ls st h R ↔ qB (qdn Wp d) (fun lb ls st h => Wp d 165 lb ls st h R) R k_X8_count_3 ls st h := Wp_u t_X8_count rfl
theorem u_X8_count_4 {d : Nat} {ls : qL} {st : List qV} {h : qH} {R : qR} : Wp d 165 4 ls st h R ↔ qB (qdn Wp d) (fun lb ls st h => Wp d 165 lb ls st h R) R k_X8_count_4 ls st h := Wp_u t_X8_count rfl
theorem u_X8_count_5 {d : Nat} {ls : qL} {st : List qV} {h : qH} {R : qR} : Wp d 165 5 ls st h R ↔ qB (qdn Wp d) (fun lb ls st h => Wp d 165 lb ls st h R) R k_X8_count_5 ls st h := Wp_u t_X8_count rfl
set_option maxRecDepth 10000 in
theorem t_X8_tape : qnth qTab 166 [] = kk_X8_tape := rfl
theorem u_X8_tape_0 {d : Nat} {ls : qL} {st : List qV} {h : qH} {R : qR} : Wp d 166 0 ls st h R ↔ qB (qdn Wp d) (fun lb ls st h => Wp d 166 lb ls st h R) R k_X8_tape_0 ls st h := Wp_u t_X8_tape rfl
theorem u_X8_tape_1 {d : Nat} {ls : qL} {st : List qV} {h : qH} {R : qR} : Wp d 166 1 ls st h R ↔ qB (qdn Wp d) (fun lb ls st h => Wp d 166 lb ls st h R) R k_X8_tape_1 ls st h := Wp_u t_X8_tape rfl
theorem u_X8_tape_2 {d : Nat} {ls : qL} {st : List qV} {h : qH} {R : qR} : Wp d 166 2 ls st h R ↔ qB (qdn Wp d) (fun lb ls st h => Wp d 166 lb ls st h R) R k_X8_tape_2 ls st h := Wp_u t_X8_tape rfl
theorem u_X8_tape_3 {d : Nat} {ls : qL} {st : List qV} {h : qH} {R : qR} : Wp d 166 3 ls st h R ↔ qB (qdn Wp d) (fun lb ls st h => Wp d 166 lb ls st h R) R k_X8_tape_3 ls st h := Wp_u t_X8_tape rfl
theorem u_X8_tape_4 {d : Nat} {ls : qL} {st : List qV} {h : qH} {R : qR} : Wp d 166 4 ls st h R ↔ qB (qdn Wp d) (fun lb ls st h => Wp d 166 lb ls st h R) R k_X8_tape_4 ls st h := Wp_u t_X8_tape rfl
theorem u_X8_tape_5 {d : Nat} {ls : qL} {st : List qV} {h : qH} {R : qR} : Wp d 166 5 ls st h R ↔ qB (qdn Wp d) (fun lb ls st h => Wp d 166 lb ls st h R) R k_X8_tape_5 ls st h := Wp_u t_X8_tape rfl
theorem u_X8_tape_6 {d : Nat} {ls : qL} {st : List qV} {h : qH} {R : qR} : Wp d 166 6 ls st h R ↔ qB (qdn Wp d) (fun lb ls st h => Wp d 166 lb ls st h R) R k_X8_tape_6 ls st h := Wp_u t_X8_tape rfl
theorem u_X8_tape_7 {d : Nat} {ls : qL} {st : List qV} {h : qH} {R : qR} : Wp d 166 7 ls st h R ↔ qB (qdn Wp d) (fun lb ls st h => Wp d 166 lb ls st h R) R k_X8_tape_7 ls st h := Wp_u t_X8_tape rfl
theorem u_X8_tape_8 {d : Nat} {ls : qL} {st : List qV} {h : qH} {R : qR} : Wp d 166 8 ls st h R ↔ qB (qdn Wp d) (fun lb ls st h => Wp d 166 lb ls st h R) R k_X8_tape_8 ls st h := Wp_u t_X8_tape rfl
set_option maxRecDepth 10000 in
theorem t_X8_lowestBits : qnth qTab 167 [] = kk_X8_lowestBits := rfl
theorem u_X8_lowestBits_0 {d : Nat} {ls : qL} {st : List qV} {h : qH} {R : qR} : Wp d 167 0 ls st h R ↔ qB (qdn Wp d) (fun lb ls st h => Wp d 167 lb ls st h R) R k_X8_lowestBits_0 ls st h := Wp_u t_X8_lowestBits rfl
theorem u_X8_lowestBits_1 {d : Nat} {ls : qL} {st : List qV} {h : qH} {R : qR} : Wp d 167 1 ls st h R ↔ qB (qdn Wp d) (fun lb ls st h => Wp d 167 lb ls st h R) R k_X8_lowestBits_1 ls st h := Wp_u t_X8_lowestBits rfl
theorem u_X8_lowestBits_2 {d : Nat} {ls : qL} {st : List qV} {h : qH} {R : qR} : Wp d 167 2 ls st h R ↔ qB (qdn Wp d) (fun lb ls st h => Wp d 167 lb ls st h R) R k_X8_lowestBits_2 ls st h := Wp_u t_X8_lowestBits rfl
theorem u_X8_lowestBits_3 {d : Nat} {ls : qL} {st : List qV} {h : qH} {R : qR} : Wp d 167 3 ls st h R ↔ qB (qdn Wp d) (fun lb ls st h => Wp d 167 lb ls st h R) R k_X8_lowestBits_3 ls st h := Wp_u t_X8_lowestBits rfl
theorem u_X8_lowestBits_4 {d : Nat} {ls : qL} {st : List qV} {h : qH} {R : qR} : Wp d 167 4 ls st h R ↔ qB (qdn Wp d) (fun lb ls st h => Wp d 167 lb ls st h R) R k_X8_lowestBits_4 ls st h := Wp_u t_X8_lowestBits rfl
theorem u_X8_lowestBits_5 {d : Nat} {ls : qL} {st : List qV} {h : qH} {R : qR} : Wp d 167 5 ls st h R ↔ qB (qdn Wp d) (fun lb ls st h => Wp d 167 lb ls st h R) R k_X8_lowestBits_5 ls st h := Wp_u t_X8_lowestBits rfl
theorem u_X8_lowestBits_6 {d : Nat} {ls : qL} {st : List qV} {h : qH} {R : qR} : Wp d 167 6 ls st h R ↔ qB (qdn Wp d) (fun lb ls st h => Wp d 167 lb ls st h R) R k_X8_lowestBits_6 ls st h := Wp_u t_X8_lowestBits rfl
theorem u_X8_lowestBits_7 {d : Nat} {ls : qL} {st : List qV} {h : qH} {R : qR} : Wp d 167 7 ls st h R ↔ qB (qdn Wp d) (fun lb ls st h => Wp d 167 lb ls st h R) R k_X8_lowestBits_7 ls st h := Wp_u t_X8_lowestBits rfl
set_option maxRecDepth 10000 in
theorem t_X8_item : qnth qTab 168 [] = kk_X8_item := rfl
theorem u_X8_item_0 {d : Nat} {ls : qL} {st : List qV} {h : qH} {R : qR} : Wp d 168 0 ls st h R ↔ qB (qdn Wp d) (fun lb ls st h => Wp d 168 lb ls st h R) R k_X8_item_0 ls st h := Wp_u t_X8_item rfl
theorem u_X8_item_1 {d : Nat} {ls : qL} {st : List qV} {h : qH} {R : qR} : Wp d 168 1 ls st h R ↔ qB (qdn Wp d) (fun lb ls st h => Wp d 168 lb ls st h R) R k_X8_item_1 ls st h := Wp_u t_X8_item rfl
theorem u_X8_item_2 {d : Nat} {ls : qL} {st : List qV} {h : qH} {R : qR} : Wp d 168 2 ls st h R ↔ qB (qdn Wp d) (fun lb ls st h => Wp d 168 lb ls st h R) R k_X8_item_2 ls st h := Wp_u t_X8_item rfl
theorem u_X8_item_3 {d : Nat} {ls : qL} {st : List qV} {h : qH} {R : qR} : Wp d 168 3 ls st h R ↔ qB (qdn Wp d) (fun lb ls st h => Wp d 168 lb ls st h R) R k_X8_item_3 ls st h := Wp_u t_X8_item rfl
set_option maxRecDepth 10000 in
theorem t_X8_peek : qnth qTab 169 [] = kk_X8_peek := rfl
theorem u_X8_peek_0 {d : Nat} {ls : qL} {st : List qV} {h : qH} {R : qR} : Wp d 169 0 ls st h R ↔ qB (qdn Wp d) (fun lb ls st h => Wp d 169 lb ls st h R) R k_X8_peek_0 ls st h := Wp_u t_X8_peek rfl
theorem u_X8_peek_1 {d : Nat} {ls : qL} {st : List qV} {h : qH} {R : qR} : Wp d 169 1 ls st h R ↔ qB (qdn Wp d) (fun lb ls st h => Wp d 169 lb ls st h R) R k_X8_peek_1 ls st h := Wp_u t_X8_peek rfl
theorem u_X8_peek_2 {d : Nat} {ls : qL} {st : List qV} {h : qH} {R : qR} : Wp d 169 2 ls st h R ↔ qB (qdn Wp d) (fun lb ls st h => Wp d 169 lb ls st h R) R k_X8_peek_2 ls st h := Wp_u t_X8_peek rfl
set_option maxRecDepth 10000 in
theorem t_X8_shift : qnth qTab 170 [] = kk_X8_shift := rfl
theorem u_X8_shift_0 {d : Nat} {ls : qL} {st : List qV} {h : qH} {R : qR} : Wp d 170 0 ls st h R ↔ qB (qdn Wp d) (fun lb ls st h => Wp d 170 lb ls st h R) R k_X8_shift_0 ls st h := Wp_u t_X8_shift rfl
theorem u_X8_shift_1 {d : Nat} {ls : qL} {st : List qV} {h : qH} {R : qR} : Wp d 170 1 ls st h R ↔ qB (qdn Wp d) (fun lb ls st h => Wp d 170 lb ls st h R) R k_X8_shift_1 ls st h := Wp_u t_X8_shift rfl
theorem u_X8_shift_2 {d : Nat} {ls : qL} {st : List qV} {h : qH} {R : qR} : Wp d 170 2 ls st h R ↔ qB (qdn Wp d) (fun lb ls st h => Wp d 170 lb ls st h R) R k_X8_shift_2 ls st h := Wp_u t_X8_shift rfl
theorem u_X8_shift_3 {d : Nat} {ls : qL} {st : List qV} {h : qH} {R : qR} : Wp d 170 3 ls st h R ↔ qB (qdn Wp d) (fun lb ls st h => Wp d 170 lb ls st h R) R k_X8_shift_3 ls st h := Wp_u t_X8_shift rfl
theorem u_X8_shift_4 {d : Nat} {ls : qL} {st : List qV} {h : qH} {R : qR} : Wp d 170 4 ls st h R ↔ qB (qdn Wp d) (fun lb ls st h => Wp d 170 lb ls st h R) R k_X8_shift_4 ls st h := Wp_u t_X8_shift rfl
theorem u_X8_shift_5 {d : Nat} {ls : qL} {st : List qV} {h : qH} {R : qR} : Wp d 170 5 ls st h R ↔ qB (qdn Wp d) (fun lb ls st h => Wp d 170 lb ls st h R) R k_X8_shift_5 ls st h := Wp_u t_X8_shift rfl
theorem u_X8_shift_6 {d : Nat} {ls : qL} {st : List qV} {h : qH} {R : qR} : Wp d 170 6 ls st h R ↔ qB (qdn Wp d) (fun lb ls st h => Wp d 170 lb ls st h R) R k_X8_shift_6 ls st h := Wp_u t_X8_shift rfl
theorem u_X8_shift_7 {d : Nat} {ls : qL} {st : List qV} {h : qH} {R : qR} : Wp d 170 7 ls st h R ↔ qB (qdn Wp d) (fun lb ls st h => Wp d 170 lb ls st h R) R k_X8_shift_7 ls st h := Wp_u t_X8_shift rfl
set_option maxRecDepth 10000 in
theorem t_J13_bitCount_95d88 : qnth qTab 171 [] = kk_J13_bitCount_95d88 := rfl
theorem u_J13_bitCount_95d88_0 {d : Nat} {ls : qL} {st : List qV} {h : qH} {R : qR} : Wp d 171 0 ls st h R ↔ qB (qdn Wp d) (fun lb ls st h => Wp d 171 lb ls st h R) R k_J13_bitCount_95d88_0 ls st h := Wp_u t_J13_bitCount_95d88 rfl
set_option maxRecDepth 10000 in
theorem t_J0_length_8abf5 : qnth qTab 172 [] = kk_J0_length_8abf5 := rfl
theorem u_J0_length_8abf5_0 {d : Nat} {ls : qL} {st : List qV} {h : qH} {R : qR} : Wp d 172 0 ls st h R ↔ qB (qdn Wp d) (fun lb ls st h => Wp d 172 lb ls st h R) R k_J0_length_8abf5_0 ls st h := Wp_u t_J0_length_8abf5 rfl
set_option maxRecDepth 10000 in
theorem t_J0_indexOf_0f7a4 : qnth qTab 173 [] = kk_J0_indexOf_0f7a4 := rfl
theorem u_J0_indexOf_0f7a4_0 {d : Nat} {ls : qL} {st : List qV} {h : qH} {R : qR} : Wp d 173 0 ls st h R ↔ qB (qdn Wp d) (fun lb ls st h => Wp d 173 lb ls st h R) R k_J0_indexOf_0f7a4_0 ls st h := Wp_u t_J0_indexOf_0f7a4 rfl
set_option maxRecDepth 10000 in
theorem t_J0_indexOf_7cf53 : qnth qTab 174 [] = kk_J0_indexOf_7cf53 := rfl
theorem u_J0_indexOf_7cf53_0 {d : Nat} {ls : qL} {st : List qV} {h : qH} {R : qR} : Wp d 174 0 ls st h R ↔ qB (qdn Wp d) (fun lb ls st h => Wp d 174 lb ls st h R) R k_J0_indexOf_7cf53_0 ls st h := Wp_u t_J0_indexOf_7cf53 rfl
theorem u_J0_indexOf_7cf53_2 {d : Nat} {ls : qL} {st : List qV} {h : qH} {R : qR} : Wp d 174 2 ls st h R ↔ qB (qdn Wp d) (fun lb ls st h => Wp d 174 lb ls st h R) R k_J0_indexOf_7cf53_2 ls st h := Wp_u t_J0_indexOf_7cf53 rfl
set_option maxRecDepth 10000 in
theorem t_J0_coder_7d493 : qnth qTab 175 [] = kk_J0_coder_7d493 := rfl
theorem u_J0_coder_7d493_0 {d : Nat} {ls : qL} {st : List qV} {h : qH} {R : qR} : Wp d 175 0 ls st h R ↔ qB (qdn Wp d) (fun lb ls st h => Wp d 175 lb ls st h R) R k_J0_coder_7d493_0 ls st h := Wp_u t_J0_coder_7d493 rfl
theorem u_J0_coder_7d493_1 {d : Nat} {ls : qL} {st : List qV} {h : qH} {R : qR} : Wp d 175 1 ls st h R ↔ qB (qdn Wp d) (fun lb ls st h => Wp d 175 lb ls st h R) R k_J0_coder_7d493_1 ls st h := Wp_u t_J0_coder_7d493 rfl
theorem u_J0_coder_7d493_2 {d : Nat} {ls : qL} {st : List qV} {h : qH} {R : qR} : Wp d 175 2 ls st h R ↔ qB (qdn Wp d) (fun lb ls st h => Wp d 175 lb ls st h R) R k_J0_coder_7d493_2 ls st h := Wp_u t_J0_coder_7d493 rfl
set_option maxRecDepth 10000 in
theorem t_J0_isLatin1_aae02 : qnth qTab 176 [] = kk_J0_isLatin1_aae02 := rfl
theorem u_J0_isLatin1_aae02_0 {d : Nat} {ls : qL} {st : List qV} {h : qH} {R : qR} : Wp d 176 0 ls st h R ↔ qB (qdn Wp d) (fun lb ls st h => Wp d 176 lb ls st h R) R k_J0_isLatin1_aae02_0 ls st h := Wp_u t_J0_isLatin1_aae02 rfl
theorem u_J0_isLatin1_aae02_1 {d : Nat} {ls : qL} {st : List qV} {h : qH} {R : qR} : Wp d 176 1 ls st h R ↔ qB (qdn Wp d) (fun lb ls st h => Wp d 176 lb ls st h R) R k_J0_isLatin1_aae02_1 ls st h := Wp_u t_J0_isLatin1_aae02 rfl
theorem u_J0_isLatin1_aae02_2 {d : Nat} {ls : qL} {st : List qV} {h : qH} {R : qR} : Wp d 176 2 ls st h R ↔ qB (qdn Wp d) (fun lb ls st h => Wp d 176 lb ls st h R) R k_J0_isLatin1_aae02_2 ls st h := Wp_u t_J0_isLatin1_aae02 rfl
set_option maxRecDepth 10000 in
theorem t_J1_canEncode_9a6ad : qnth qTab 177 [] = kk_J1_canEncode_9a6ad := rfl
theorem u_J1_canEncode_9a6ad_0 {d : Nat} {ls : qL} {st : List qV} {h : qH} {R : qR} : Wp d 177 0 ls st h R ↔ qB (qdn Wp d) (fun lb ls st h => Wp d 177 lb ls st h R) R k_J1_canEncode_9a6ad_0 ls st h := Wp_u t_J1_canEncode_9a6ad rfl
theorem u_J1_canEncode_9a6ad_1 {d : Nat} {ls : qL} {st : List qV} {h : qH} {R : qR} : Wp d 177 1 ls st h R ↔ qB (qdn Wp d) (fun lb ls st h => Wp d 177 lb ls st h R) R k_J1_canEncode_9a6ad_1 ls st h := Wp_u t_J1_canEncode_9a6ad rfl
theorem u_J1_canEncode_9a6ad_2 {d : Nat} {ls : qL} {st : List qV} {h : qH} {R : qR} : Wp d 177 2 ls st h R ↔ qB (qdn Wp d) (fun lb ls st h => Wp d 177 lb ls st h R) R k_J1_canEncode_9a6ad_2 ls st h := Wp_u t_J1_canEncode_9a6ad rfl
set_option maxRecDepth 10000 in
theorem t_J1_indexOf_4cfef : qnth qTab 178 [] = kk_J1_indexOf_4cfef := rfl
theorem u_J1_indexOf_4cfef_0 {d : Nat} {ls : qL} {st : List qV} {h : qH} {R : qR} : Wp d 178 0 ls st h R ↔ qB (qdn Wp d) (fun lb ls st h => Wp d 178 lb ls st h R) R k_J1_indexOf_4cfef_0 ls st h := Wp_u t_J1_indexOf_4cfef rfl
theorem u_J1_indexOf_4cfef_1 {d : Nat} {ls : qL} {st : List qV} {h : qH} {R : qR} : Wp d 178 1 ls st h R ↔ qB (qdn Wp d) (fun lb ls st h => Wp d 178 lb ls st h R) R k_J1_indexOf_4cfef_1 ls st h := Wp_u t_J1_indexOf_4cfef rfl
theorem u_J1_indexOf_4cfef_2 {d : Nat} {ls : qL} {st : List qV} {h : qH} {R : qR} : Wp d 178 2 ls st h R ↔ qB (qdn Wp d) (fun lb ls st h => Wp d 178 lb ls st h R) R k_J1_indexOf_4cfef_2 ls st h := Wp_u t_J1_indexOf_4cfef rfl
set_option maxRecDepth 10000 in
theorem t_J1_indexOfChar_4cfef : qnth qTab 179 [] = kk_J1_indexOfChar_4cfef := rfl
theorem u_J1_indexOfChar_4cfef_0 {d : Nat} {ls : qL} {st : List qV} {h : qH} {R : qR} : Wp d 179 0 ls st h R ↔ qB (qdn Wp d) (fun lb ls st h => Wp d 179 lb ls st h R) R k_J1_indexOfChar_4cfef_0 ls st h := Wp_u t_J1_indexOfChar_4cfef rfl
theorem u_J1_indexOfChar_4cfef_1 {d : Nat} {ls : qL} {st : List qV} {h : qH} {R : qR} : Wp d 179 1 ls st h R ↔ qB (qdn Wp d) (fun lb ls st h => Wp d 179 lb ls st h R) R k_J1_indexOfChar_4cfef_1 ls st h := Wp_u t_J1_indexOfChar_4cfef rfl
theorem u_J1_indexOfChar_4cfef_2 {d : Nat} {ls : qL} {st : List qV} {h : qH} {R : qR} : Wp d 179 2 ls st h R ↔ qB (qdn Wp d) (fun lb ls st h => Wp d 179 lb ls st h R) R k_J1_indexOfChar_4cfef_2 ls st h := Wp_u t_J1_indexOfChar_4cfef rfl
theorem u_J1_indexOfChar_4cfef_3 {d : Nat} {ls : qL} {st : List qV} {h : qH} {R : qR} : Wp d 179 3 ls st h R ↔ qB (qdn Wp d) (fun lb ls st h => Wp d 179 lb ls st h R) R k_J1_indexOfChar_4cfef_3 ls st h := Wp_u t_J1_indexOfChar_4cfef rfl
set_option maxRecDepth 10000 in
theorem t_J7_fill_d0a16 : qnth qTab 180 [] = kk_J7_fill_d0a16 := rfl
theorem u_J7_fill_d0a16_0 {d : Nat} {ls : qL} {st : List qV} {h : qH} {R : qR} : Wp d 180 0 ls st h R ↔ qB (qdn Wp d) (fun lb ls st h => Wp d 180 lb ls st h R) R k_J7_fill_d0a16_0 ls st h := Wp_u t_J7_fill_d0a16 rfl
theorem u_J7_fill_d0a16_1 {d : Nat} {ls : qL} {st : List qV} {h : qH} {R : qR} : Wp d 180 1 ls st h R ↔ qB (qdn Wp d) (fun lb ls st h => Wp d 180 lb ls st h R) R k_J7_fill_d0a16_1 ls st h := Wp_u t_J7_fill_d0a16 rfl
theorem u_J7_fill_d0a16_2 {d : Nat} {ls : qL} {st : List qV} {h : qH} {R : qR} : Wp d 180 2 ls st h R ↔ qB (qdn Wp d) (fun lb ls st h => Wp d 180 lb ls st h R) R k_J7_fill_d0a16_2 ls st h := Wp_u t_J7_fill_d0a16 rfl
set_option maxRecDepth 10000 in
theorem t_J7_fill_53178 : qnth qTab 181 [] = kk_J7_fill_53178 := rfl
theorem u_J7_fill_53178_0 {d : Nat} {ls : qL} {st : List qV} {h : qH} {R : qR} : Wp d 181 0 ls st h R ↔ qB (qdn Wp d) (fun lb ls st h => Wp d 181 lb ls st h R) R k_J7_fill_53178_0 ls st h := Wp_u t_J7_fill_53178 rfl
theorem u_J7_fill_53178_1 {d : Nat} {ls : qL} {st : List qV} {h : qH} {R : qR} : Wp d 181 1 ls st h R ↔ qB (qdn Wp d) (fun lb ls st h => Wp d 181 lb ls st h R) R k_J7_fill_53178_1 ls st h := Wp_u t_J7_fill_53178 rfl
theorem u_J7_fill_53178_2 {d : Nat} {ls : qL} {st : List qV} {h : qH} {R : qR} : Wp d 181 2 ls st h R ↔ qB (qdn Wp d) (fun lb ls st h => Wp d 181 lb ls st h R) R k_J7_fill_53178_2 ls st h := Wp_u t_J7_fill_53178 rfl
set_option maxRecDepth 10000 in
theorem t_L_law : qnth qTab 182 [] = kk_L_law := rfl
theorem u_L_law_1 {d : Nat} {ls : qL} {st : List qV} {h : qH} {R : qR} : Wp d 182 1 ls st h R ↔ qB (qdn Wp d) (fun lb ls st h => Wp d 182 lb ls st h R) R k_L_law_1 ls st h := Wp_u t_L_law rfl
theorem u_L_law_2 {d : Nat} {ls : qL} {st : List qV} {h : qH} {R : qR} : Wp d 182 2 ls st h R ↔ qB (qdn Wp d) (fun lb ls st h => Wp d 182 lb ls st h R) R k_L_law_2 ls st h := Wp_u t_L_law rfl
theorem u_L_law_3 {d : Nat} {ls : qL} {st : List qV} {h : qH} {R : qR} : Wp d 182 3 ls st h R ↔ qB (qdn Wp d) (fun lb ls st h => Wp d 182 lb ls st h R) R k_L_law_3 ls st h := Wp_u t_L_law rfl
theorem u_L_law_4 {d : Nat} {ls : qL} {st : List qV} {h : qH} {R : qR} : Wp d 182 4 ls st h R ↔ qB (qdn Wp d) (fun lb ls st h => Wp d 182 lb ls st h R) R k_L_law_4 ls st h := Wp_u t_L_law rfl
theorem u_L_law_5 {d : Nat} {ls : qL} {st : List qV} {h : qH} {R : qR} : Wp d 182 5 ls st h R ↔ qB (qdn Wp d) (fun lb ls st h => Wp d 182 lb ls st h R) R k_L_law_5 ls st h := Wp_u t_L_law rfl
theorem u_L_law_6 {d : Nat} {ls : qL} {st : List qV} {h : qH} {R : qR} : Wp d 182 6 ls st h R ↔ qB (qdn Wp d) (fun lb ls st h => Wp d 182 lb ls st h R) R k_L_law_6 ls st h := Wp_u t_L_law rfl
theorem u_L_law_7 {d : Nat} {ls : qL} {st : List qV} {h : qH} {R : qR} : Wp d 182 7 ls st h R ↔ qB (qdn Wp d) (fun lb ls st h => Wp d 182 lb ls st h R) R k_L_law_7 ls st h := Wp_u t_L_law rfl
theorem u_L_law_8 {d : Nat} {ls : qL} {st : List qV} {h : qH} {R : qR} : Wp d 182 8 ls st h R ↔ qB (qdn Wp d) (fun lb ls st h => Wp d 182 lb ls st h R) R k_L_law_8 ls st h := Wp_u t_L_law rfl
theorem u_L_law_9 {d : Nat} {ls : qL} {st : List qV} {h : qH} {R : qR} : Wp d 182 9 ls st h R ↔ qB (qdn Wp d) (fun lb ls st h => Wp d 182 lb ls st h R) R k_L_law_9 ls st h := Wp_u t_L_law rfl
theorem u_L_law_10 {d : Nat} {ls : qL} {st : List qV} {h : qH} {R : qR} : Wp d 182 10 ls st h R ↔ qB (qdn Wp d) (fun lb ls st h => Wp d 182 lb ls st h R) R k_L_law_10 ls st h := Wp_u t_L_law rfl
theorem u_L_law_11 {d : Nat} {ls : qL} {st : List qV} {h : qH} {R : qR} : Wp d 182 11 ls st h R ↔ qB (qdn Wp d) (fun lb ls st h => Wp d 182 lb ls st h R) R k_L_law_11 ls st h := Wp_u t_L_law rfl
theorem u_L_law_12 {d : Nat} {ls : qL} {st : List qV} {h : qH} {R : qR} : Wp d 182 12 ls st h R ↔ qB (qdn Wp d) (fun lb ls st h => Wp d 182 lb ls st h R) R k_L_law_12 ls st h := Wp_u t_L_law rfl
theorem u_L_law_13 {d : Nat} {ls : qL} {st : List qV} {h : qH} {R : qR} : Wp d 182 13 ls st h R ↔ qB (qdn Wp d) (fun lb ls st h => Wp d 182 lb ls st h R) R k_L_law_13 ls st h := Wp_u t_L_law rfl
theorem u_L_law_14 {d : Nat} {ls : qL} {st : List qV} {h : qH} {R : qR} : Wp d 182 14 ls st h R ↔ qB (qdn Wp d) (fun lb ls st h => Wp d 182 lb ls st h R) R k_L_law_14 ls st h := Wp_u t_L_law rfl
theorem u_L_law_15 {d : Nat} {ls : qL} {st : List qV} {h : qH} {R : qR} : Wp d 182 15 ls st h R ↔ qB (qdn Wp d) (fun lb ls st h => Wp d 182 lb ls st h R) R k_L_law_15 ls st h := Wp_u t_L_law rfl
theorem u_L_law_16 {d : Nat} {ls : qL} {st : List qV} {h : qH} {R : qR} : Wp d 182 16 ls st h R ↔ qB (qdn Wp d) (fun lb ls st h => Wp d 182 lb ls st h R) R k_L_law_16 ls st h := Wp_u t_L_law rfl
theorem u_L_law_17 {d : Nat} {ls : qL} {st : List qV} {h : qH} {R : qR} : Wp d 182 17 ls st h R ↔ qB (qdn Wp d) (fun lb ls st h => Wp d 182 lb ls st h R) R k_L_law_17 ls st h := Wp_u t_L_law rfl
theorem u_L_law_18 {d : Nat} {ls : qL} {st : List qV} {h : qH} {R : qR} : Wp d 182 18 ls st h R ↔ qB (qdn Wp d) (fun lb ls st h => Wp d 182 lb ls st h R) R k_L_law_18 ls st h := Wp_u t_L_law rfl
theorem u_L_law_19 {d : Nat} {ls : qL} {st : List qV} {h : qH} {R : qR} : Wp d 182 19 ls st h R ↔ qB (qdn Wp d) (fun lb ls st h => Wp d 182 lb ls st h R) R k_L_law_19 ls st h := Wp_u t_L_law rfl
theorem u_L_law_20 {d : Nat} {ls : qL} {st : List qV} {h : qH} {R : qR} : Wp d 182 20 ls st h R ↔ qB (qdn Wp d) (fun lb ls st h => Wp d 182 lb ls st h R) R k_L_law_20 ls st h := Wp_u t_L_law rfl
theorem u_L_law_21 {d : Nat} {ls : qL} {st : List qV} {h : qH} {R : qR} : Wp d 182 21 ls st h R ↔ qB (qdn Wp d) (fun lb ls st h => Wp d 182 lb ls st h R) R k_L_law_21 ls st h := Wp_u t_L_law rfl
theorem u_L_law_22 {d : Nat} {ls : qL} {st : List qV} {h : qH} {R : qR} : Wp d 182 22 ls st h R ↔ qB (qdn Wp d) (fun lb ls st h => Wp d 182 lb ls st h R) R k_L_law_22 ls st h := Wp_u t_L_law rfl
theorem u_L_law_23 {d : Nat} {ls : qL} {st : List qV} {h : qH} {R : qR} : Wp d 182 23 ls st h R ↔ qB (qdn Wp d) (fun lb ls st h => Wp d 182 lb ls st h R) R k_L_law_23 ls st h := Wp_u t_L_law rfl
theorem u_L_law_24 {d : Nat} {ls : qL} {st : List qV} {h : qH} {R : qR} : Wp d 182 24 ls st h R ↔ qB (qdn Wp d) (fun lb ls st h => Wp d 182 lb ls st h R) R k_L_law_24 ls st h := Wp_u t_L_law rfl
theorem u_L_law_25 {d : Nat} {ls : qL} {st : List qV} {h : qH} {R : qR} : Wp d 182 25 ls st h R ↔ qB (qdn Wp d) (fun lb ls st h => Wp d 182 lb ls st h R) R k_L_law_25 ls st h := Wp_u t_L_law rfl
theorem u_L_law_26 {d : Nat} {ls : qL} {st : List qV} {h : qH} {R : qR} : Wp d 182 26 ls st h R ↔ qB (qdn Wp d) (fun lb ls st h => Wp d 182 lb ls st h R) R k_L_law_26 ls st h := Wp_u t_L_law rfl
theorem u_L_law_27 {d : Nat} {ls : qL} {st : List qV} {h : qH} {R : qR} : Wp d 182 27 ls st h R ↔ qB (qdn Wp d) (fun lb ls st h => Wp d 182 lb ls st h R) R k_L_law_27 ls st h := Wp_u t_L_law rfl
theorem u_L_law_28 {d : Nat} {ls : qL} {st : List qV} {h : qH} {R : qR} : Wp d 182 28 ls st h R ↔ qB (qdn Wp d) (fun lb ls st h => Wp d 182 lb ls st h R) R k_L_law_28 ls st h := Wp_u t_L_law rfl
theorem u_L_law_29 {d : Nat} {ls : qL} {st : List qV} {h : qH} {R : qR} : Wp d 182 29 ls st h R ↔ qB (qdn Wp d) (fun lb ls st h => Wp d 182 lb ls st h R) R k_L_law_29 ls st h := Wp_u t_L_law rfl
theorem u_L_law_30 {d : Nat} {ls : qL} {st : List qV} {h : qH} {R : qR} : Wp d 182 30 ls st h R ↔ qB (qdn Wp d) (fun lb ls st h => Wp d 182 lb ls st h R) R k_L_law_30 ls st h := Wp_u t_L_law rfl
theorem u_L_law_31 {d : Nat} {ls : qL} {st : List qV} {h : qH} {R : qR} : Wp d 182 31 ls st h R ↔ qB (qdn Wp d) (fun lb ls st h => Wp d 182 lb ls st h R) R k_L_law_31 ls st h := Wp_u t_L_law rfl
theorem u_L_law_32 {d : Nat} {ls : qL} {st : List qV} {h : qH} {R : qR} : Wp d 182 32 ls st h R ↔ qB (qdn Wp d) (fun lb ls st h => Wp d 182 lb ls st h R) R k_L_law_32 ls st h := Wp_u t_L_law rfl
theorem u_L_law_33 {d : Nat} {ls : qL} {st : List qV} {h : qH} {R : qR} : Wp d 182 33 ls st h R ↔ qB (qdn Wp d) (fun lb ls st h => Wp d 182 lb ls st h R) R k_L_law_33 ls st h := Wp_u t_L_law rfl
theorem u_L_law_34 {d : Nat} {ls : qL} {st : List qV} {h : qH} {R : qR} : Wp d 182 34 ls st h R ↔ qB (qdn Wp d) (fun lb ls st h => Wp d 182 lb ls st h R) R k_L_law_34 ls st h := Wp_u t_L_law rfl
theorem u_L_law_35 {d : Nat} {ls : qL} {st : List qV} {h : qH} {R : qR} : Wp d 182 35 ls st h R ↔ qB (qdn Wp d) (fun lb ls st h => Wp d 182 lb ls st h R) R k_L_law_35 ls st h := Wp_u t_L_law rfl
theorem u_L_law_36 {d : Nat} {ls : qL} {st : List qV} {h : qH} {R : qR} : Wp d 182 36 ls st h R ↔ qB (qdn Wp d) (fun lb ls st h => Wp d 182 lb ls st h R) R k_L_law_36 ls st h := Wp_u t_L_law rfl
theorem u_L_law_37 {d : Nat} {ls : qL} {st : List qV} {h : qH} {R : qR} : Wp d 182 37 ls st h R ↔ qB (qdn Wp d) (fun lb ls st h => Wp d 182 lb ls st h R) R k_L_law_37 ls st h := Wp_u t_L_law rfl
theorem u_L_law_38 {d : Nat} {ls : qL} {st : List qV} {h : qH} {R : qR} : Wp d 182 38 ls st h R ↔ qB (qdn Wp d) (fun lb ls st h => Wp d 182 lb ls st h R) R k_L_law_38 ls st h := Wp_u t_L_law rfl
theorem u_L_law_39 {d : Nat} {ls : qL} {st : List qV} {h : qH} {R : qR} : Wp d 182 39 ls st h R ↔ qB (qdn Wp d) (fun lb ls st h => Wp d 182 lb ls st h R) R k_L_law_39 ls st h := Wp_u t_L_law rfl
theorem u_L_law_40 {d : Nat} {ls : qL} {st : List qV} {h : qH} {R : qR} : Wp d 182 40 ls st h R ↔ qB (qdn Wp d) (fun lb ls st h => Wp d 182 lb ls st h R) R k_L_law_40 ls st h := Wp_u t_L_law rfl
theorem u_L_law_41 {d : Nat} {ls : qL} {st : List qV} {h : qH} {R : qR} : Wp d 182 41 ls st h R ↔ qB (qdn Wp d) (fun lb ls st h => Wp d 182 lb ls st h R) R k_L_law_41 ls st h := Wp_u t_L_law rfl
theorem u_L_law_42 {d : Nat} {ls : qL} {st : List qV} {h : qH} {R : qR} : Wp d 182 42 ls st h R ↔ qB (qdn Wp d) (fun lb ls st h => Wp d 182 lb ls st h R) R k_L_law_42 ls st h := Wp_u t_L_law rfl
theorem u_L_law_43 {d : Nat} {ls : qL} {st : List qV} {h : qH} {R : qR} : Wp d 182 43 ls st h R ↔ qB (qdn Wp d) (fun lb ls st h => Wp d 182 lb ls st h R) R k_L_law_43 ls st h := Wp_u t_L_law rfl
theorem u_L_law_44 {d : Nat} {ls : qL} {st : List qV} {h : qH} {R : qR} : Wp d 182 44 ls st h R ↔ qB (qdn Wp d) (fun lb ls st h => Wp d 182 lb ls st h R) R k_L_law_44 ls st h := Wp_u t_L_law rfl
theorem u_L_law_45 {d : Nat} {ls : qL} {st : List qV} {h : qH} {R : qR} : Wp d 182 45 ls st h R ↔ qB (qdn Wp d) (fun lb ls st h => Wp d 182 lb ls st h R) R k_L_law_45 ls st h := Wp_u t_L_law rfl
theorem u_L_law_46 {d : Nat} {ls : qL} {st : List qV} {h : qH} {R : qR} : Wp d 182 46 ls st h R ↔ qB (qdn Wp d) (fun lb ls st h => Wp d 182 lb ls st h R) R k_L_law_46 ls st h := Wp_u t_L_law rfl
theorem u_L_law_47 {d : Nat} {ls : qL} {st : List qV} {h : qH} {R : qR} : Wp d 182 47 ls st h R ↔ qB (qdn Wp d) (fun lb ls st h => Wp d 182 lb ls st h R) R k_L_law_47 ls st h := Wp_u t_L_law rfl
