/-! THE CLAIM OUT OF ONE WALK OF THE LAW'S BODY. Your part is whole_start (and what it stands on); all else here is the same for every law, but numbers. -/
def R_law : String := "PlateCutsLaw"
def lw_P (b : Addr) (xs : List Int32) (args : Array Value) (s : State) : Prop := args = #[.ref b] ∧ s.IntsAt b xs ∧ xs.length ≤ 3072 ∧ (Jvm.Cond.and given_1 narrow_1).before args s = true
def lw_Q (_ : Array Value) (s : State) (o : Outcome) (t : State) : Prop := o = .returned (some (.int 1)) ∧ Framed s o t [] 600000 7302250
def lw_Z (below : List Frame) (a : Array Value) (s : State) : State → Prop := fun t => ∃ o, t.status = .running ∧ Ended t below o ∧ lw_Q a s o t
/-- the law's own end, with 1 on the stack, nothing written that was there before, its room as the claim has it -/
theorem lw_ret {p : Program} {l : Launch} {e : Env} {s : State} {m : MethodId} {below : List Frame} {meth : Method} {c : Code} {b : Nat} (hx : p.tables.exec = Jvm.exec) (hb : c.code = code) (hr : meth.sig.returnType = ret) (hlocks : meth.locks = false) {pc : Nat} {H : Heap} {ls : Array Slot} (hdg : decode code pc = .ok (.ireturn, 1)) : W p l e room_1 s m #[Value.ref b] below meth c H [] 600000 7302250 (lw_Z below #[Value.ref b] s) (F0 m pc ls [.int 1]) := by
  intro T hT X
  obtain ⟨fs, hret, hrun, hended, hW, hframe⟩ := X.leave (v := some (.int 1)) (hlocks := hlocks) (fun h => by rw [hr] at h; cases h)
  have hmeth' : T.vm.method? m = some meth := X.method'
  refine ⟨T.setFrames fs, ?_, .returned (some (.int 1)), hrun, hended, rfl, ⟨_, rfl⟩, hW, hframe⟩
  jvm_step X.here [X.here.top, hx, hb, hdg, hmeth', hr, ret, narrow_b1]
  (try refine ⟨rfl, ?_⟩); (try refine ⟨rfl, ?_⟩)
  first | (intro acts; rw [hret _ acts rfl rfl rfl]) | rw [hret _ _ rfl rfl rfl]
  exact Steps.refl _
/-- what holds at the law's entry: the machine, the code, the tables' words (any of lw_tbl by 'hts w (by decide +kernel)'), the script of L ints xs at the cell b, what the Statement gives of the start (any of its parts by flat_of_before) -/
def lw_At (p : Program) (s : State) (m : MethodId) (meth : Method) (c : Code) (b L : Nat) (xs : Nat → Int32) : Prop :=
  p.tables.exec = Jvm.exec ∧ c.code = code ∧ meth.sig.returnType = ret ∧ c.maxLocals = 4 ∧ s.vm.findClass R_law = some m.cls ∧ (∀ w ∈ lw_tbl, w.before #[Value.ref b] s = true) ∧ va_X b L xs s s.heap ∧ b < s.heap.size ∧ meth.locks = false ∧ (Jvm.Cond.and given_1 narrow_1).before #[Value.ref b] s = true
theorem dL_law_0 : decode code 0 = .ok (.new 7, 3) := by decide +kernel
theorem dL_law_3 : decode code 3 = .ok (.dup, 1) := by decide +kernel
theorem dL_law_4 : decode code 4 = .ok (.invokespecial 9, 3) := by decide +kernel
theorem dL_law_7 : decode code 7 = .ok (.astore_n 1, 1) := by decide +kernel
theorem dL_law_8 : decode code 8 = .ok (.new 10, 3) := by decide +kernel
theorem dL_law_11 : decode code 11 = .ok (.dup, 1) := by decide +kernel
theorem dL_law_12 : decode code 12 = .ok (.invokespecial 12, 3) := by decide +kernel
theorem dL_law_15 : decode code 15 = .ok (.astore_n 2, 1) := by decide +kernel
theorem dL_law_16 : decode code 16 = .ok (.iconst 0, 1) := by decide +kernel
theorem dL_law_17 : decode code 17 = .ok (.istore_n 3, 1) := by decide +kernel
def lwWs : List Cond := [.classLink RL 7 RX7, .instantiable RX7 9, .initialized RX7, .methodLink RL 9 yX7_init, .instanceMethod yX7_init, .code yX7_init cX7_init 2 none, .classLink RL 10 RX8, .instantiable RX8 16, .initialized RX8, .methodLink RL 12 yX8_init, .instanceMethod yX8_init, .code yX8_init cX8_init 1 none]
theorem lwW : ∀ w ∈ lwWs, w ∈ TBL := tb_of [65, 66, 47, 67, 68, 69, 710, 711, 56, 712, 713, 714] (by decide +kernel) (by decide +kernel)
theorem lwW_7 : ∀ w ∈ ([.initialized RX7, .methodLink RL 9 yX7_init, .instanceMethod yX7_init, .code yX7_init cX7_init 2 none] : List Cond), w ∈ TBL := tb_of [47, 67, 68, 69] (by decide +kernel) (by decide +kernel)
theorem lwW_8 : ∀ w ∈ ([.initialized RX8, .methodLink RL 12 yX8_init, .instanceMethod yX8_init, .code yX8_init cX8_init 1 none] : List Cond), w ∈ TBL := tb_of [56, 712, 713, 714] (by decide +kernel) (by decide +kernel)
theorem lw_pc : qnth (qpcs 182) 2 0 = 18 := by decide +kernel
theorem lw_md : qmd 182 = md_L_law := rfl
set_option maxHeartbeats 8000000 in
set_option maxRecDepth 100000 in
/-- from the first state on: the simulation of the law's loop -/
theorem lw_run {p : Program} {e : Env} {s : State} {m : MethodId} {below : List Frame} {meth : Method} {c : Code} (l : Launch) {b L : Nat} {xs : Nat → Int32} (hL : L ≤ 3072) (C0 : lw_At p s m meth c b L xs) {D : va_G} {cs : Nat → ClassId} {α : Nat → Nat} {cells slots : Nat} {H : Heap} {locs : List Loc} {ls : Array Slot} (hc : cells ≤ 600000) (hs : slots ≤ 7302250) (e1 : α 1001 = b) (hSF : qSF α cs D s.heap.size L xs s) (hP : va_P D vwCl (qws α cs (cnH L xs)) H) (hD : va_D (fun q : Nat => s.heap.size ≤ q) (qws α cs (cnH L xs))) (hS : va_S (fun q : Nat => s.heap.size ≤ q) s.heap H locs) (hl : lv_has ls 4 [(0, .ref b), (1, .ref (α 0)), (2, .ref (α 46)), (3, .int 0)]) : W p l e room_1 s m #[Value.ref b] below meth c H locs cells slots (lw_Z below #[Value.ref b] s) (F0 m 18 ls []) := by
  obtain ⟨hx, hb, hr, hml, hown, htsL, hX, hbl, hlocks, hgv⟩ := id C0
  have hts : ∀ w ∈ TBL, w.before #[Value.ref b] s = true := fun w h => htsL w (tb_tbl h)
  have hw := law_loop (d := 869) (Ls := L) (xs := xs) (R := fun r _ => r = some (.inl 1)) hL (fun _ => rfl) (L + 6) 0 (cnH L xs) (by omega) (by decide) (by decide) cn_LR
  have hF : qFr p s m #[Value.ref b] meth c (qmd 182) := by
    rw [lw_md]
    exact ⟨hx, hb, hml, hr, hlocks, hown, hts⟩
  have hRt : qRet p l e room_1 s m #[Value.ref b] below meth c cells slots (lw_Z below #[Value.ref b] s) α cs D s.heap.size (qro L xs) (qmd 182) (fun r _ => r = some (.inl 1)) := by
    rw [lw_md]
    intro pcr r h H1 locs1 lsR hR hq hP1 hD1 hS1 hro
    subst hR
    refine va_forget (fun q hq => hS1.2.2 q hq) ?_
    refine W.widen (k := 600000) (n := 7302250) hc hs ?_
    exact lw_ret hx hb hr hlocks hq.1
  have hsn := qsound (l := l) (α := α) (cs := cs) (D := D) (base := s.heap.size) (Ls := L) (xs := xs) qvalid hw p e room_1 s m #[Value.ref b] below meth c cells slots (lw_Z below #[Value.ref b] s) hF hSF ⟨Nat.le_of_ble_eq_true rfl, Nat.le_of_ble_eq_true rfl, hc, hs⟩ hRt
  rw [lw_md, lw_pc] at hsn
  refine hsn H locs ls hP hD hS ?_ rfl ?_ (fun n hn => cnH_hi hn)
  · show lv_has ls 4 [(0, .ref (α 1001)), (1, .ref (α 0)), (2, .ref (α 46)), (3, .int (Int32.ofInt 0))]
    rw [e1]
    exact hl
  · intro i x hi
    match i, hi with
    | 0, hi => cases hi
    | 1, hi => cases hi
    | 2, hi => cases hi
    | 3, hi => cases hi
    | n + 4, hi => cases hi
set_option maxHeartbeats 8000000 in
set_option maxRecDepth 100000 in
theorem whole_start {p : Program} {e : Env} {s : State} {m : MethodId} {below : List Frame} {meth : Method} {c : Code} (l : Launch) (hflags : l.flags = flags0) {b L : Nat} {xs : Nat → Int32} (hL : L ≤ 3072) (C0 : lw_At p s m meth c b L xs) : W p l e room_1 s m #[Value.ref b] below meth c s.heap [] 0 0 (lw_Z below #[Value.ref b] s) (entryFrame m ([Value.ref b] : List Value).toArray 4) := by
  obtain ⟨hx, hb, hr, hml, hown, htsL, hX, hbl, hlocks, hgv⟩ := id C0
  have hown : s.vm.findClass RL = some m.cls := hown
  have hts : ∀ w ∈ TBL, w.before #[Value.ref b] s = true := fun w h => htsL w (tb_tbl h)
  obtain ⟨⟨D, cs, hK⟩, hO⟩ := cn_K htsL
  obtain ⟨αr, e1001, hSF⟩ := cn_SF htsL hX hbl hL hgv hK
  have hA : ∀ q : Nat, s.heap.size ≤ q → (fun q : Nat => s.heap.size ≤ q) q := fun _ h => h
  have hS : va_S (fun q : Nat => s.heap.size ≤ q) s.heap s.heap [] := va_S.rf
  have hP : va_P D vwCl [] s.heap := fun k q h => by simp at h
  have hD : va_D (fun q : Nat => s.heap.size ≤ q) [] := ⟨fun i j p q h => by simp at h, fun k q h => by simp at h⟩
  have hl := lv_entry ([.ref b]) (n := 4) (Nat.le_of_ble_eq_true rfl)
  rw [lg_entry_eq]
  generalize (lg_sl ([.ref b]) ++ List.replicate (4 - (lg_sl ([.ref b])).length) Slot.unset).toArray = ls at hl ⊢
  have hl : lv_has ls 4 [(0, .ref b)] := hl
  refine va_new (ci := 7) (fs := [.null, .null, .int 0, .null, .int 0, .null, .null, .null, .null]) (C := RX7) (T := TX7) (N := 9) hx hb hts qcw_7 tyX7 tyX7_ok hown (hts _ (lwW _ (List.mem_of_getElem? (i := 0) rfl))) (hts _ (lwW _ (List.mem_of_getElem? (i := 1) rfl))) (hts _ (lwW _ (List.mem_of_getElem? (i := 2) rfl))) hK hP hD hS hA rfl (fun j hj => by rcases (show j = 0 ∨ j = 1 ∨ j = 2 ∨ j = 3 ∨ j = 4 ∨ j = 5 ∨ j = 6 ∨ j = 7 ∨ j = 8 by omega) with rfl | rfl | rfl | rfl | rfl | rfl | rfl | rfl | rfl <;> rfl) (Nat.le_of_ble_eq_true rfl) (Nat.le_of_ble_eq_true rfl) dL_law_0 (fun ah0 H hP hD hS => ?_)
  refine W.widen (k := 1) (n := 9) (Nat.le_of_ble_eq_true rfl) (Nat.le_of_ble_eq_true rfl) ?_
  refine lv_dup hx hb dL_law_3 rfl ?_
  refine cn_call (D := D) (cs := cs) (wr := []) (q := ah0) (As := []) (n := 0) (nL := 4) hx hb hml hown hts hO (fun h0 sz => cn_X7 l D cs h0 sz) lwW_7 rfl (by decide +kernel) rfl rfl rfl ⟨Nat.le_of_ble_eq_true rfl, Nat.le_of_ble_eq_true rfl⟩ hK hP hD hS hA hl.1 rfl (Nat.le_of_ble_eq_true rfl) dL_law_4 ⟨Nat.le_of_ble_eq_true rfl, Nat.le_of_ble_eq_true rfl⟩ (fun w H locs hw hP hD hS => ?_)
  obtain ⟨aq0, aq0_0, aq0_1, aq0_2, aq0_3, aq0_4, aq0_5, aq0_6, aq0_7, aq1, aq1_0, aq1_1, aq1_2, aq1_3, aq1_4, aq1_5, aq1_6, aq1_7, aq2, aq2_0, aq2_1, aq2_2, aq2_3, aq3, aq3_0, aq4, aq4_0, aq4_1, aq4_2, aq4_3, aq5, aq5_0, aq6, aq7, aq7_0, aq8, aq8_0, aq9, aq9_0, aq10, aq10_0, aq11, aq11_0, aq12, aq12_0, rfl⟩ := hw
  have hP : va_P D vwCl (cw_X7 cs ah0 aq0 aq0_0 aq0_1 aq0_2 aq0_3 aq0_4 aq0_5 aq0_6 aq0_7 aq1 aq1_0 aq1_1 aq1_2 aq1_3 aq1_4 aq1_5 aq1_6 aq1_7 aq2 aq2_0 aq2_1 aq2_2 aq2_3 aq3 aq3_0 aq4 aq4_0 aq4_1 aq4_2 aq4_3 aq5 aq5_0 aq6 aq7 aq7_0 aq8 aq8_0 aq9 aq9_0 aq10 aq10_0 aq11 aq11_0 aq12 aq12_0) H := hP
  have hD : va_D (fun q : Nat => s.heap.size ≤ q) (cw_X7 cs ah0 aq0 aq0_0 aq0_1 aq0_2 aq0_3 aq0_4 aq0_5 aq0_6 aq0_7 aq1 aq1_0 aq1_1 aq1_2 aq1_3 aq1_4 aq1_5 aq1_6 aq1_7 aq2 aq2_0 aq2_1 aq2_2 aq2_3 aq3 aq3_0 aq4 aq4_0 aq4_1 aq4_2 aq4_3 aq5 aq5_0 aq6 aq7 aq7_0 aq8 aq8_0 aq9 aq9_0 aq10 aq10_0 aq11 aq11_0 aq12 aq12_0) := hD
  refine W.widen (k := 46) (n := 3829) (Nat.le_of_ble_eq_true rfl) (Nat.le_of_ble_eq_true rfl) ?_
  refine lv_astore_n (lv' := [(1, .ref ah0), (0, .ref b)]) hx hb dL_law_7 rfl hl (by decide) rfl (fun ls hl => ?_)
  refine va_new (ci := 8) (fs := [.null, .null, .null, .int 0, .null, .int 0, .null, .int 0, .null, .null, .int 0, .null, .null, .null, .null, .null]) (C := RX8) (T := TX8) (N := 16) hx hb hts qcw_8 tyX8 tyX8_ok hown (hts _ (lwW _ (List.mem_of_getElem? (i := 6) rfl))) (hts _ (lwW _ (List.mem_of_getElem? (i := 7) rfl))) (hts _ (lwW _ (List.mem_of_getElem? (i := 8) rfl))) hK hP hD hS hA rfl (fun j hj => by rcases (show j = 0 ∨ j = 1 ∨ j = 2 ∨ j = 3 ∨ j = 4 ∨ j = 5 ∨ j = 6 ∨ j = 7 ∨ j = 8 ∨ j = 9 ∨ j = 10 ∨ j = 11 ∨ j = 12 ∨ j = 13 ∨ j = 14 ∨ j = 15 by omega) with rfl | rfl | rfl | rfl | rfl | rfl | rfl | rfl | rfl | rfl | rfl | rfl | rfl | rfl | rfl | rfl <;> rfl) (Nat.le_of_ble_eq_true rfl) (Nat.le_of_ble_eq_true rfl) dL_law_8 (fun bh0 H hP hD hS => ?_)
  refine W.widen (k := 47) (n := 3845) (Nat.le_of_ble_eq_true rfl) (Nat.le_of_ble_eq_true rfl) ?_
  refine lv_dup hx hb dL_law_11 rfl ?_
  refine cn_call (D := D) (cs := cs) (wr := cw_X7 cs ah0 aq0 aq0_0 aq0_1 aq0_2 aq0_3 aq0_4 aq0_5 aq0_6 aq0_7 aq1 aq1_0 aq1_1 aq1_2 aq1_3 aq1_4 aq1_5 aq1_6 aq1_7 aq2 aq2_0 aq2_1 aq2_2 aq2_3 aq3 aq3_0 aq4 aq4_0 aq4_1 aq4_2 aq4_3 aq5 aq5_0 aq6 aq7 aq7_0 aq8 aq8_0 aq9 aq9_0 aq10 aq10_0 aq11 aq11_0 aq12 aq12_0) (q := bh0) (As := []) (n := 0) (nL := 4) hx hb hml hown hts hO (fun h0 sz => cn_X8 l D cs h0 sz) lwW_8 rfl (by decide +kernel) rfl rfl rfl ⟨Nat.le_of_ble_eq_true rfl, Nat.le_of_ble_eq_true rfl⟩ hK hP hD hS hA hl.1 rfl (Nat.le_of_ble_eq_true rfl) dL_law_12 ⟨Nat.le_of_ble_eq_true rfl, Nat.le_of_ble_eq_true rfl⟩ (fun w H locs hw hP hD hS => ?_)
  obtain ⟨bq0, bq1, bq2, bq3, bq4, bq5, bq6, bq7, bq8, bq9, bq10, bq11, rfl⟩ := hw
  refine W.widen (k := 65) (n := 13965) (Nat.le_of_ble_eq_true rfl) (Nat.le_of_ble_eq_true rfl) ?_
  refine lv_astore_n (lv' := [(2, .ref bh0), (1, .ref ah0), (0, .ref b)]) hx hb dL_law_15 rfl hl (by decide) rfl (fun ls hl => ?_)
  refine lv_iconst (v := 0) hx hb dL_law_16 (by decide) ?_
  refine lv_istore_n (lv' := [(3, .int 0), (2, .ref bh0), (1, .ref ah0), (0, .ref b)]) hx hb dL_law_17 rfl hl (by decide) rfl (fun ls hl => ?_)
  have hl := lv_sub (l' := [(0, .ref b), (1, .ref ah0), (2, .ref bh0), (3, .int 0)]) hl [3, 2, 1, 0] rfl
  have hpm := cn_perm (cs := cs) (αr := αr) (L := L) (xs := xs) (ah0 := ah0) (aq0 := aq0) (aq0_0 := aq0_0) (aq0_1 := aq0_1) (aq0_2 := aq0_2) (aq0_3 := aq0_3) (aq0_4 := aq0_4) (aq0_5 := aq0_5) (aq0_6 := aq0_6) (aq0_7 := aq0_7) (aq1 := aq1) (aq1_0 := aq1_0) (aq1_1 := aq1_1) (aq1_2 := aq1_2) (aq1_3 := aq1_3) (aq1_4 := aq1_4) (aq1_5 := aq1_5) (aq1_6 := aq1_6) (aq1_7 := aq1_7) (aq2 := aq2) (aq2_0 := aq2_0) (aq2_1 := aq2_1) (aq2_2 := aq2_2) (aq2_3 := aq2_3) (aq3 := aq3) (aq3_0 := aq3_0) (aq4 := aq4) (aq4_0 := aq4_0) (aq4_1 := aq4_1) (aq4_2 := aq4_2) (aq4_3 := aq4_3) (aq5 := aq5) (aq5_0 := aq5_0) (aq6 := aq6) (aq7 := aq7) (aq7_0 := aq7_0) (aq8 := aq8) (aq8_0 := aq8_0) (aq9 := aq9) (aq9_0 := aq9_0) (aq10 := aq10) (aq10_0 := aq10_0) (aq11 := aq11) (aq11_0 := aq11_0) (aq12 := aq12) (aq12_0 := aq12_0) (bh0 := bh0) (bq0 := bq0) (bq1 := bq1) (bq2 := bq2) (bq3 := bq3) (bq4 := bq4) (bq5 := bq5) (bq6 := bq6) (bq7 := bq7) (bq8 := bq8) (bq9 := bq9) (bq10 := bq10) (bq11 := bq11) cn_fa cn_fs (cn_ft (α := cnAl αr (cnAs ah0 aq0 aq0_0 aq0_1 aq0_2 aq0_3 aq0_4 aq0_5 aq0_6 aq0_7 aq1 aq1_0 aq1_1 aq1_2 aq1_3 aq1_4 aq1_5 aq1_6 aq1_7 aq2 aq2_0 aq2_1 aq2_2 aq2_3 aq3 aq3_0 aq4 aq4_0 aq4_1 aq4_2 aq4_3 aq5 aq5_0 aq6 aq7 aq7_0 aq8 aq8_0 aq9 aq9_0 aq10 aq10_0 aq11 aq11_0 aq12 aq12_0 bh0 bq0 bq1 bq2 bq3 bq4 bq5 bq6 bq7 bq8 bq9 bq10 bq11)) (fun i hi => by rcases cn_six i hi with rfl | rfl | rfl | rfl | rfl | rfl <;> rfl)) (cn_fg (α := cnAl αr (cnAs ah0 aq0 aq0_0 aq0_1 aq0_2 aq0_3 aq0_4 aq0_5 aq0_6 aq0_7 aq1 aq1_0 aq1_1 aq1_2 aq1_3 aq1_4 aq1_5 aq1_6 aq1_7 aq2 aq2_0 aq2_1 aq2_2 aq2_3 aq3 aq3_0 aq4 aq4_0 aq4_1 aq4_2 aq4_3 aq5 aq5_0 aq6 aq7 aq7_0 aq8 aq8_0 aq9 aq9_0 aq10 aq10_0 aq11 aq11_0 aq12 aq12_0 bh0 bq0 bq1 bq2 bq3 bq4 bq5 bq6 bq7 bq8 bq9 bq10 bq11)) (fun i hi => by rcases cn_six i hi with rfl | rfl | rfl | rfl | rfl | rfl <;> rfl))
  have hP9 := hP.sub cnIS (cn_fm _ _ hpm)
  have hD9 := hD.sub cnIS (by decide +kernel) hpm
  have hSF9 := hSF (cnAl αr (cnAs ah0 aq0 aq0_0 aq0_1 aq0_2 aq0_3 aq0_4 aq0_5 aq0_6 aq0_7 aq1 aq1_0 aq1_1 aq1_2 aq1_3 aq1_4 aq1_5 aq1_6 aq1_7 aq2 aq2_0 aq2_1 aq2_2 aq2_3 aq3 aq3_0 aq4 aq4_0 aq4_1 aq4_2 aq4_3 aq5 aq5_0 aq6 aq7 aq7_0 aq8 aq8_0 aq9 aq9_0 aq10 aq10_0 aq11 aq11_0 aq12 aq12_0 bh0 bq0 bq1 bq2 bq3 bq4 bq5 bq6 bq7 bq8 bq9 bq10 bq11)) (fun n hn => if_neg (Nat.not_lt.mpr hn))
  exact lw_run (α := cnAl αr (cnAs ah0 aq0 aq0_0 aq0_1 aq0_2 aq0_3 aq0_4 aq0_5 aq0_6 aq0_7 aq1 aq1_0 aq1_1 aq1_2 aq1_3 aq1_4 aq1_5 aq1_6 aq1_7 aq2 aq2_0 aq2_1 aq2_2 aq2_3 aq3 aq3_0 aq4 aq4_0 aq4_1 aq4_2 aq4_3 aq5 aq5_0 aq6 aq7 aq7_0 aq8 aq8_0 aq9 aq9_0 aq10 aq10_0 aq11 aq11_0 aq12 aq12_0 bh0 bq0 bq1 bq2 bq3 bq4 bq5 bq6 bq7 bq8 bq9 bq10 bq11)) l hL C0 (by decide) (by decide) e1001 hSF9 hP9 hD9 hS hl
