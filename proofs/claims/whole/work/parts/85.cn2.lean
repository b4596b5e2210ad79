/-! ===== constructors ===== -/
theorem dX2_init_0 : decode cX2_init 0 = .ok (.aload_n 0, 1) := by decide +kernel
theorem dX2_init_1 : decode cX2_init 1 = .ok (.invokespecial 3, 3) := by decide +kernel
theorem dX2_init_4 : decode cX2_init 4 = .ok (.aload_n 0, 1) := by decide +kernel
theorem dX2_init_5 : decode cX2_init 5 = .ok (.iconst 4, 1) := by decide +kernel
theorem dX2_init_6 : decode cX2_init 6 = .ok (.putfield 9, 3) := by decide +kernel
theorem dX2_init_9 : decode cX2_init 9 = .ok (.aload_n 0, 1) := by decide +kernel
theorem dX2_init_10 : decode cX2_init 10 = .ok (.iconst 4, 1) := by decide +kernel
theorem dX2_init_11 : decode cX2_init 11 = .ok (.putfield 15, 3) := by decide +kernel
theorem dX2_init_14 : decode cX2_init 14 = .ok (.aload_n 0, 1) := by decide +kernel
theorem dX2_init_15 : decode cX2_init 15 = .ok (.bipush 20, 2) := by decide +kernel
theorem dX2_init_17 : decode cX2_init 17 = .ok (.newarray .int, 2) := by decide +kernel
theorem dX2_init_19 : decode cX2_init 19 = .ok (.putfield 18, 3) := by decide +kernel
theorem dX2_init_22 : decode cX2_init 22 = .ok (.return_, 1) := by decide +kernel
set_option maxRecDepth 100000 in
abbrev cw_X2 (cs : Nat → ClassId) (h0 : Nat) (q0 : Nat) : va_W := ((h0, .inr (2, [.int 4, .int 4, .int 0, .int 0, .long 0, .ref q0])) :: (q0, cnI cs 20) :: [])
set_option maxHeartbeats 4000000 in
set_option maxRecDepth 100000 in
theorem cn_X2 (l : Launch) (D : va_G) (cs : Nat → ClassId) (h0 sz : Nat) : cnMet l D cs yX2_init cX2_init 1 { frames := 1, cells := 1, slots := 20, locals := 40 } [] (.inr (2, [.int 0, .int 0, .int 0, .int 0, .long 0, .null])) (fun h w => ∃ q0 : Nat, w = cw_X2 cs h q0) h0 sz 1 20 := by
  refine Met.ofW (cc := cX2_init) (maxL := 1) (ret := none) (by decide) rfl ?_
  intro p e s m args below meth c s₁ B hml hv
  obtain ⟨rfl, hsz, hP, hK, hD0, hO⟩ := hv
  have hx := B.exec
  have hb := B.bytes
  have hr := B.returns
  have hts0 := atoms_spec (ws := cnwd yX2_init cX2_init 1) B.pre
  have hts : ∀ w ∈ TBL, w.before _ s = true := fun w hw => hts0 w (List.mem_cons_of_mem _ hw)
  have hown : s.vm.findClass RX2 = some m.cls := findClass_of_methodNamed B.named
  have hlocks := B.notSynchronized
  have hin : meth.name = "<init>" := (name_of_methodNamed B.named B.method).1
  subst hsz
  have hD := hD0.self (sz := s.heap.size)
  generalize hAe : va_A [(h0, .inr (2, [.int 0, .int 0, .int 0, .int 0, .long 0, .null]))] s.heap.size = A at hD ⊢
  have hA : ∀ q : Nat, s.heap.size ≤ q → A q := fun q h => by rw [← hAe]; exact Or.inr h
  have hS : va_S A s.heap s.heap [] := va_S.rf
  have hl := lv_entry ([.ref h0]) (n := 1) (Nat.le_of_ble_eq_true rfl)
  rw [lg_entry_eq]
  generalize (lg_sl ([.ref h0]) ++ List.replicate (1 - (lg_sl ([.ref h0])).length) Slot.unset).toArray = ls at hl ⊢
  have hl : lv_has ls 1 [(0, .ref h0)] := hl
  refine lv_aload_n hx hb dX2_init_0 rfl (lv_at hl 0 rfl) ?_
  refine W.objInit hx hb hown (hts _ (cnW _ (List.mem_of_getElem? (i := 0) rfl))) (hts _ (cnW _ (List.mem_of_getElem? (i := 1) rfl))) (hts _ (cnW _ (List.mem_of_getElem? (i := 2) rfl))) rfl (by rw [hml]; exact hl.1) rfl dX2_init_1 (Nat.le_of_ble_eq_true rfl) (Nat.le_of_ble_eq_true rfl) ?_
  refine W.eq (g2 := F0 m 4 ls []) rfl ?_
  refine lv_aload_n hx hb dX2_init_4 rfl (lv_at hl 0 rfl) ?_
  refine lv_iconst (v := 4) hx hb dX2_init_5 (by decide) ?_
  refine va_put (D := D) (ci := 2) (v := .int 4) (ty := .int) (C := RX2) (T := TX2) (N := 6) hx hb hts qcw_2 tyX2 tyX2_ok nmX2 hown hK hP hD hS 0 rfl rfl 0 (by decide) (hts _ (cnW _ (List.mem_of_getElem? (i := 3) rfl))) (fun _ h9 => h9) rfl (by decide +kernel) rfl rfl (Nat.le_of_ble_eq_true rfl) dX2_init_6 (fun H locs hP hD hS => ?_)
  have hP : va_P D vwCl ((h0, .inr (2, [.int 4, .int 0, .int 0, .int 0, .long 0, .null])) :: []) H := hP
  have hD : va_D A ((h0, .inr (2, [.int 4, .int 0, .int 0, .int 0, .long 0, .null])) :: []) := hD
  refine lv_aload_n hx hb dX2_init_9 rfl (lv_at hl 0 rfl) ?_
  refine lv_iconst (v := 4) hx hb dX2_init_10 (by decide) ?_
  refine va_put (D := D) (ci := 2) (v := .int 4) (ty := .int) (C := RX2) (T := TX2) (N := 6) hx hb hts qcw_2 tyX2 tyX2_ok nmX2 hown hK hP hD hS 0 rfl rfl 1 (by decide) (hts _ (cnW _ (List.mem_of_getElem? (i := 4) rfl))) (fun _ h9 => h9) rfl (by decide +kernel) rfl rfl (Nat.le_of_ble_eq_true rfl) dX2_init_11 (fun H locs hP hD hS => ?_)
  have hP : va_P D vwCl ((h0, .inr (2, [.int 4, .int 4, .int 0, .int 0, .long 0, .null])) :: []) H := hP
  have hD : va_D A ((h0, .inr (2, [.int 4, .int 4, .int 0, .int 0, .long 0, .null])) :: []) := hD
  refine lv_aload_n hx hb dX2_init_14 rfl (lv_at hl 0 rfl) ?_
  refine lv_bipush (v := 20) hx hb dX2_init_15 (by decide) ?_
  refine cn_newi (N' := 20) (cs := cs) hx hb (hts _ (cnW _ (List.mem_of_getElem? (i := 5) rfl))) hK hP hD hS hA (by decide) rfl (Nat.le_of_ble_eq_true rfl) (Nat.le_of_ble_eq_true rfl) (Nat.le_of_ble_eq_true rfl) dX2_init_17 (fun q0 H hP hD hS => ?_)
  have hP : va_P D vwCl ((h0, .inr (2, [.int 4, .int 4, .int 0, .int 0, .long 0, .null])) :: (q0, cnI cs 20) :: []) H := hP
  have hD : va_D A ((h0, .inr (2, [.int 4, .int 4, .int 0, .int 0, .long 0, .null])) :: (q0, cnI cs 20) :: []) := hD
  refine W.widen (k := 1) (n := 20) (Nat.le_of_ble_eq_true rfl) (Nat.le_of_ble_eq_true rfl) ?_
  refine va_putF (D := D) (ci := 2) (v := .ref q0) (ty := .array .int) (C := RX2) (T := TX2) (N := 6) hx hb hts qcw_2 tyX2 tyX2_ok nmX2 hown hK hP hD hS 0 rfl rfl 5 (by decide) (hts _ (cnW _ (List.mem_of_getElem? (i := 6) rfl))) (fun _ h9 => h9) rfl hin rfl (by decide +kernel) rfl rfl (Nat.le_of_ble_eq_true rfl) dX2_init_19 (fun H locs hP hD hS => ?_)
  have hP : va_P D vwCl ((h0, .inr (2, [.int 4, .int 4, .int 0, .int 0, .long 0, .ref q0])) :: (q0, cnI cs 20) :: []) H := hP
  have hD : va_D A ((h0, .inr (2, [.int 4, .int 4, .int 0, .int 0, .long 0, .ref q0])) :: (q0, cnI cs 20) :: []) := hD
  exact W.vret hx hb hr (fun t ht hW => ⟨⟨(), rfl, trivial, cw_X2 cs h0 q0, ⟨q0, rfl⟩, by rw [ht]; exact hP, by rw [hAe]; exact hD⟩, hS.F ht⟩) hS.2.2 dX2_init_22
theorem dX4_init_0 : decode cX4_init 0 = .ok (.aload_n 0, 1) := by decide +kernel
theorem dX4_init_1 : decode cX4_init 1 = .ok (.invokespecial 3, 3) := by decide +kernel
theorem dX4_init_4 : decode cX4_init 4 = .ok (.aload_n 0, 1) := by decide +kernel
theorem dX4_init_5 : decode cX4_init 5 = .ok (.bipush 60, 2) := by decide +kernel
theorem dX4_init_7 : decode cX4_init 7 = .ok (.newarray .long, 2) := by decide +kernel
theorem dX4_init_9 : decode cX4_init 9 = .ok (.putfield 9, 3) := by decide +kernel
theorem dX4_init_12 : decode cX4_init 12 = .ok (.aload_n 0, 1) := by decide +kernel
theorem dX4_init_13 : decode cX4_init 13 = .ok (.iconst (-1), 1) := by decide +kernel
theorem dX4_init_14 : decode cX4_init 14 = .ok (.putfield 15, 3) := by decide +kernel
theorem dX4_init_17 : decode cX4_init 17 = .ok (.return_, 1) := by decide +kernel
set_option maxRecDepth 100000 in
abbrev cw_X4 (cs : Nat → ClassId) (h0 : Nat) (q0 : Nat) : va_W := ((h0, .inr (4, [.ref q0, .int (-1), .int 0])) :: (q0, cnL cs 60) :: [])
set_option maxHeartbeats 4000000 in
set_option maxRecDepth 100000 in
theorem cn_X4 (l : Launch) (D : va_G) (cs : Nat → ClassId) (h0 sz : Nat) : cnMet l D cs yX4_init cX4_init 1 { frames := 1, cells := 1, slots := 60, locals := 40 } [] (.inr (4, [.null, .int 0, .int 0])) (fun h w => ∃ q0 : Nat, w = cw_X4 cs h q0) h0 sz 1 60 := by
  refine Met.ofW (cc := cX4_init) (maxL := 1) (ret := none) (by decide) rfl ?_
  intro p e s m args below meth c s₁ B hml hv
  obtain ⟨rfl, hsz, hP, hK, hD0, hO⟩ := hv
  have hx := B.exec
  have hb := B.bytes
  have hr := B.returns
  have hts0 := atoms_spec (ws := cnwd yX4_init cX4_init 1) B.pre
  have hts : ∀ w ∈ TBL, w.before _ s = true := fun w hw => hts0 w (List.mem_cons_of_mem _ hw)
  have hown : s.vm.findClass RX4 = some m.cls := findClass_of_methodNamed B.named
  have hlocks := B.notSynchronized
  have hin : meth.name = "<init>" := (name_of_methodNamed B.named B.method).1
  subst hsz
  have hD := hD0.self (sz := s.heap.size)
  generalize hAe : va_A [(h0, .inr (4, [.null, .int 0, .int 0]))] s.heap.size = A at hD ⊢
  have hA : ∀ q : Nat, s.heap.size ≤ q → A q := fun q h => by rw [← hAe]; exact Or.inr h
  have hS : va_S A s.heap s.heap [] := va_S.rf
  have hl := lv_entry ([.ref h0]) (n := 1) (Nat.le_of_ble_eq_true rfl)
  rw [lg_entry_eq]
  generalize (lg_sl ([.ref h0]) ++ List.replicate (1 - (lg_sl ([.ref h0])).length) Slot.unset).toArray = ls at hl ⊢
  have hl : lv_has ls 1 [(0, .ref h0)] := hl
  refine lv_aload_n hx hb dX4_init_0 rfl (lv_at hl 0 rfl) ?_
  refine W.objInit hx hb hown (hts _ (cnW _ (List.mem_of_getElem? (i := 7) rfl))) (hts _ (cnW _ (List.mem_of_getElem? (i := 1) rfl))) (hts _ (cnW _ (List.mem_of_getElem? (i := 2) rfl))) rfl (by rw [hml]; exact hl.1) rfl dX4_init_1 (Nat.le_of_ble_eq_true rfl) (Nat.le_of_ble_eq_true rfl) ?_
  refine W.eq (g2 := F0 m 4 ls []) rfl ?_
  refine lv_aload_n hx hb dX4_init_4 rfl (lv_at hl 0 rfl) ?_
  refine lv_bipush (v := 60) hx hb dX4_init_5 (by decide) ?_
  refine cn_newl (N' := 60) (cs := cs) hx hb (hts _ (cnW _ (List.mem_of_getElem? (i := 8) rfl))) hK hP hD hS hA (by decide) rfl (Nat.le_of_ble_eq_true rfl) (Nat.le_of_ble_eq_true rfl) (Nat.le_of_ble_eq_true rfl) dX4_init_7 (fun q0 H hP hD hS => ?_)
  have hP : va_P D vwCl ((h0, .inr (4, [.null, .int 0, .int 0])) :: (q0, cnL cs 60) :: []) H := hP
  have hD : va_D A ((h0, .inr (4, [.null, .int 0, .int 0])) :: (q0, cnL cs 60) :: []) := hD
  refine W.widen (k := 1) (n := 60) (Nat.le_of_ble_eq_true rfl) (Nat.le_of_ble_eq_true rfl) ?_
  refine va_putF (D := D) (ci := 4) (v := .ref q0) (ty := .array .long) (C := RX4) (T := TX4) (N := 3) hx hb hts qcw_4 tyX4 tyX4_ok nmX4 hown hK hP hD hS 0 rfl rfl 0 (by decide) (hts _ (cnW _ (List.mem_of_getElem? (i := 9) rfl))) (fun _ h9 => h9) rfl hin rfl (by decide +kernel) rfl rfl (Nat.le_of_ble_eq_true rfl) dX4_init_9 (fun H locs hP hD hS => ?_)
  have hP : va_P D vwCl ((h0, .inr (4, [.ref q0, .int 0, .int 0])) :: (q0, cnL cs 60) :: []) H := hP
  have hD : va_D A ((h0, .inr (4, [.ref q0, .int 0, .int 0])) :: (q0, cnL cs 60) :: []) := hD
  refine lv_aload_n hx hb dX4_init_12 rfl (lv_at hl 0 rfl) ?_
  refine lv_iconst (v := -1) hx hb dX4_init_13 (by decide) ?_
  refine va_put (D := D) (ci := 4) (v := .int (-1)) (ty := .int) (C := RX4) (T := TX4) (N := 3) hx hb hts qcw_4 tyX4 tyX4_ok nmX4 hown hK hP hD hS 0 rfl rfl 1 (by decide) (hts _ (cnW _ (List.mem_of_getElem? (i := 10) rfl))) (fun _ h9 => h9) rfl (by decide +kernel) rfl rfl (Nat.le_of_ble_eq_true rfl) dX4_init_14 (fun H locs hP hD hS => ?_)
  have hP : va_P D vwCl ((h0, .inr (4, [.ref q0, .int (-1), .int 0])) :: (q0, cnL cs 60) :: []) H := hP
  have hD : va_D A ((h0, .inr (4, [.ref q0, .int (-1), .int 0])) :: (q0, cnL cs 60) :: []) := hD
  exact W.vret hx hb hr (fun t ht hW => ⟨⟨(), rfl, trivial, cw_X4 cs h0 q0, ⟨q0, rfl⟩, by rw [ht]; exact hP, by rw [hAe]; exact hD⟩, hS.F ht⟩) hS.2.2 dX4_init_17
theorem dX5_init_0 : decode cX5_init 0 = .ok (.aload_n 0, 1) := by decide +kernel
theorem dX5_init_1 : decode cX5_init 1 = .ok (.invokespecial 3, 3) := by decide +kernel
theorem dX5_init_4 : decode cX5_init 4 = .ok (.aload_n 0, 1) := by decide +kernel
theorem dX5_init_5 : decode cX5_init 5 = .ok (.bipush 100, 2) := by decide +kernel
theorem dX5_init_7 : decode cX5_init 7 = .ok (.newarray .byte, 2) := by decide +kernel
theorem dX5_init_9 : decode cX5_init 9 = .ok (.putfield 9, 3) := by decide +kernel
theorem dX5_init_12 : decode cX5_init 12 = .ok (.return_, 1) := by decide +kernel
set_option maxRecDepth 100000 in
abbrev cw_X5 (cs : Nat → ClassId) (h0 : Nat) (q0 : Nat) : va_W := ((h0, .inr (5, [.ref q0, .int 0])) :: (q0, cnB cs 100) :: [])
set_option maxHeartbeats 4000000 in
set_option maxRecDepth 100000 in
theorem cn_X5 (l : Launch) (D : va_G) (cs : Nat → ClassId) (h0 sz : Nat) : cnMet l D cs yX5_init cX5_init 1 { frames := 1, cells := 1, slots := 100, locals := 40 } [] (.inr (5, [.null, .int 0])) (fun h w => ∃ q0 : Nat, w = cw_X5 cs h q0) h0 sz 1 100 := by
  refine Met.ofW (cc := cX5_init) (maxL := 1) (ret := none) (by decide) rfl ?_
  intro p e s m args below meth c s₁ B hml hv
  obtain ⟨rfl, hsz, hP, hK, hD0, hO⟩ := hv
  have hx := B.exec
  have hb := B.bytes
  have hr := B.returns
  have hts0 := atoms_spec (ws := cnwd yX5_init cX5_init 1) B.pre
  have hts : ∀ w ∈ TBL, w.before _ s = true := fun w hw => hts0 w (List.mem_cons_of_mem _ hw)
  have hown : s.vm.findClass RX5 = some m.cls := findClass_of_methodNamed B.named
  have hlocks := B.notSynchronized
  have hin : meth.name = "<init>" := (name_of_methodNamed B.named B.method).1
  subst hsz
  have hD := hD0.self (sz := s.heap.size)
  generalize hAe : va_A [(h0, .inr (5, [.null, .int 0]))] s.heap.size = A at hD ⊢
  have hA : ∀ q : Nat, s.heap.size ≤ q → A q := fun q h => by rw [← hAe]; exact Or.inr h
  have hS : va_S A s.heap s.heap [] := va_S.rf
  have hl := lv_entry ([.ref h0]) (n := 1) (Nat.le_of_ble_eq_true rfl)
  rw [lg_entry_eq]
  generalize (lg_sl ([.ref h0]) ++ List.replicate (1 - (lg_sl ([.ref h0])).length) Slot.unset).toArray = ls at hl ⊢
  have hl : lv_has ls 1 [(0, .ref h0)] := hl
  refine lv_aload_n hx hb dX5_init_0 rfl (lv_at hl 0 rfl) ?_
  refine W.objInit hx hb hown (hts _ (cnW _ (List.mem_of_getElem? (i := 11) rfl))) (hts _ (cnW _ (List.mem_of_getElem? (i := 1) rfl))) (hts _ (cnW _ (List.mem_of_getElem? (i := 2) rfl))) rfl (by rw [hml]; exact hl.1) rfl dX5_init_1 (Nat.le_of_ble_eq_true rfl) (Nat.le_of_ble_eq_true rfl) ?_
  refine W.eq (g2 := F0 m 4 ls []) rfl ?_
  refine lv_aload_n hx hb dX5_init_4 rfl (lv_at hl 0 rfl) ?_
  refine lv_bipush (v := 100) hx hb dX5_init_5 (by decide) ?_
  refine cn_newb (N' := 100) (cs := cs) hx hb (hts _ (cnW _ (List.mem_of_getElem? (i := 12) rfl))) hK hP hD hS hA (by decide) rfl (Nat.le_of_ble_eq_true rfl) (Nat.le_of_ble_eq_true rfl) (Nat.le_of_ble_eq_true rfl) dX5_init_7 (fun q0 H hP hD hS => ?_)
  have hP : va_P D vwCl ((h0, .inr (5, [.null, .int 0])) :: (q0, cnB cs 100) :: []) H := hP
  have hD : va_D A ((h0, .inr (5, [.null, .int 0])) :: (q0, cnB cs 100) :: []) := hD
  refine W.widen (k := 1) (n := 100) (Nat.le_of_ble_eq_true rfl) (Nat.le_of_ble_eq_true rfl) ?_
  refine va_putF (D := D) (ci := 5) (v := .ref q0) (ty := .array .byte) (C := RX5) (T := TX5) (N := 2) hx hb hts qcw_5 tyX5 tyX5_ok nmX5 hown hK hP hD hS 0 rfl rfl 0 (by decide) (hts _ (cnW _ (List.mem_of_getElem? (i := 13) rfl))) (fun _ h9 => h9) rfl hin rfl (by decide +kernel) rfl rfl (Nat.le_of_ble_eq_true rfl) dX5_init_9 (fun H locs hP hD hS => ?_)
  have hP : va_P D vwCl ((h0, .inr (5, [.ref q0, .int 0])) :: (q0, cnB cs 100) :: []) H := hP
  have hD : va_D A ((h0, .inr (5, [.ref q0, .int 0])) :: (q0, cnB cs 100) :: []) := hD
  exact W.vret hx hb hr (fun t ht hW => ⟨⟨(), rfl, trivial, cw_X5 cs h0 q0, ⟨q0, rfl⟩, by rw [ht]; exact hP, by rw [hAe]; exact hD⟩, hS.F ht⟩) hS.2.2 dX5_init_12
theorem dX1_init_0 : decode cX1_init 0 = .ok (.aload_n 0, 1) := by decide +kernel
theorem dX1_init_1 : decode cX1_init 1 = .ok (.invokespecial 3, 3) := by decide +kernel
theorem dX1_init_4 : decode cX1_init 4 = .ok (.aload_n 0, 1) := by decide +kernel
theorem dX1_init_5 : decode cX1_init 5 = .ok (.iconst 2, 1) := by decide +kernel
theorem dX1_init_6 : decode cX1_init 6 = .ok (.iload_n 1, 1) := by decide +kernel
theorem dX1_init_7 : decode cX1_init 7 = .ok (.iconst 0, 1) := by decide +kernel
theorem dX1_init_8 : decode cX1_init 8 = .ok (.invokestatic 9, 3) := by decide +kernel
theorem dX1_init_11 : decode cX1_init 11 = .ok (.imul, 1) := by decide +kernel
theorem dX1_init_12 : decode cX1_init 12 = .ok (.newarray .int, 2) := by decide +kernel
theorem dX1_init_14 : decode cX1_init 14 = .ok (.putfield 15, 3) := by decide +kernel
theorem dX1_init_17 : decode cX1_init 17 = .ok (.return_, 1) := by decide +kernel
set_option maxRecDepth 100000 in
abbrev cw_X1_5 (cs : Nat → ClassId) (h0 : Nat) (q0 : Nat) : va_W := ((h0, .inr (1, [.ref q0, .int 0])) :: (q0, cnI cs 10) :: [])
set_option maxHeartbeats 4000000 in
set_option maxRecDepth 100000 in
theorem cn_X1_5 (l : Launch) (D : va_G) (cs : Nat → ClassId) (h0 sz : Nat) : cnMet l D cs yX1_init cX1_init 2 { frames := 1, cells := 1, slots := 10, locals := 40 } [.int 5] (.inr (1, [.null, .int 0])) (fun h w => ∃ q0 : Nat, w = cw_X1_5 cs h q0) h0 sz 1 10 := by
  refine Met.ofW (cc := cX1_init) (maxL := 2) (ret := none) (by decide) rfl ?_
  intro p e s m args below meth c s₁ B hml hv
  obtain ⟨rfl, hsz, hP, hK, hD0, hO⟩ := hv
  have hx := B.exec
  have hb := B.bytes
  have hr := B.returns
  have hts0 := atoms_spec (ws := cnwd yX1_init cX1_init 2) B.pre
  have hts : ∀ w ∈ TBL, w.before _ s = true := fun w hw => hts0 w (List.mem_cons_of_mem _ hw)
  have hown : s.vm.findClass RX1 = some m.cls := findClass_of_methodNamed B.named
  have hlocks := B.notSynchronized
  have hin : meth.name = "<init>" := (name_of_methodNamed B.named B.method).1
  subst hsz
  have hD := hD0.self (sz := s.heap.size)
  generalize hAe : va_A [(h0, .inr (1, [.null, .int 0]))] s.heap.size = A at hD ⊢
  have hA : ∀ q : Nat, s.heap.size ≤ q → A q := fun q h => by rw [← hAe]; exact Or.inr h
  have hS : va_S A s.heap s.heap [] := va_S.rf
  have hl := lv_entry ([.ref h0, .int 5]) (n := 2) (Nat.le_of_ble_eq_true rfl)
  rw [lg_entry_eq]
  generalize (lg_sl ([.ref h0, .int 5]) ++ List.replicate (2 - (lg_sl ([.ref h0, .int 5])).length) Slot.unset).toArray = ls at hl ⊢
  have hl : lv_has ls 2 [(0, .ref h0), (1, .int 5)] := hl
  refine lv_aload_n hx hb dX1_init_0 rfl (lv_at hl 0 rfl) ?_
  refine W.objInit hx hb hown (hts _ (cnW _ (List.mem_of_getElem? (i := 14) rfl))) (hts _ (cnW _ (List.mem_of_getElem? (i := 1) rfl))) (hts _ (cnW _ (List.mem_of_getElem? (i := 2) rfl))) rfl (by rw [hml]; exact hl.1) rfl dX1_init_1 (Nat.le_of_ble_eq_true rfl) (Nat.le_of_ble_eq_true rfl) ?_
  refine W.eq (g2 := F0 m 4 ls []) rfl ?_
  refine lv_aload_n hx hb dX1_init_4 rfl (lv_at hl 0 rfl) ?_
  refine lv_iconst (v := 2) hx hb dX1_init_5 (by decide) ?_
  refine lv_iload_n hx hb dX1_init_6 rfl (lv_at hl 1 rfl) ?_
  refine lv_iconst (v := 0) hx hb dX1_init_7 (by decide) ?_
  refine va_mmax hx hb (by rw [hml]; exact hl.1.symm) hown (hts _ (cnW _ (List.mem_of_getElem? (i := 15) rfl))) (hts _ (cnW _ (List.mem_of_getElem? (i := 16) rfl))) (hts _ (cnW _ (List.mem_of_getElem? (i := 17) rfl))) (hts _ (cnW _ (List.mem_of_getElem? (i := 18) rfl))) (Nat.le_of_ble_eq_true rfl) (Nat.le_of_ble_eq_true rfl) (Nat.le_of_ble_eq_true rfl) (Nat.le_of_ble_eq_true rfl) dX1_init_8 ?_
  refine lv_imul hx hb dX1_init_11 ?_
  refine W.eq (g2 := F0 m 12 ls [.int 10, .ref h0]) (by congr 3) ?_
  refine cn_newi (N' := 10) (cs := cs) hx hb (hts _ (cnW _ (List.mem_of_getElem? (i := 5) rfl))) hK hP hD hS hA (by decide) rfl (Nat.le_of_ble_eq_true rfl) (Nat.le_of_ble_eq_true rfl) (Nat.le_of_ble_eq_true rfl) dX1_init_12 (fun q0 H hP hD hS => ?_)
  have hP : va_P D vwCl ((h0, .inr (1, [.null, .int 0])) :: (q0, cnI cs 10) :: []) H := hP
  have hD : va_D A ((h0, .inr (1, [.null, .int 0])) :: (q0, cnI cs 10) :: []) := hD
  refine W.widen (k := 1) (n := 10) (Nat.le_of_ble_eq_true rfl) (Nat.le_of_ble_eq_true rfl) ?_
  refine va_putF (D := D) (ci := 1) (v := .ref q0) (ty := .array .int) (C := RX1) (T := TX1) (N := 2) hx hb hts qcw_1 tyX1 tyX1_ok nmX1 hown hK hP hD hS 0 rfl rfl 0 (by decide) (hts _ (cnW _ (List.mem_of_getElem? (i := 19) rfl))) (fun _ h9 => h9) rfl hin rfl (by decide +kernel) rfl rfl (Nat.le_of_ble_eq_true rfl) dX1_init_14 (fun H locs hP hD hS => ?_)
  have hP : va_P D vwCl ((h0, .inr (1, [.ref q0, .int 0])) :: (q0, cnI cs 10) :: []) H := hP
  have hD : va_D A ((h0, .inr (1, [.ref q0, .int 0])) :: (q0, cnI cs 10) :: []) := hD
  exact W.vret hx hb hr (fun t ht hW => ⟨⟨(), rfl, trivial, cw_X1_5 cs h0 q0, ⟨q0, rfl⟩, by rw [ht]; exact hP, by rw [hAe]; exact hD⟩, hS.F ht⟩) hS.2.2 dX1_init_17
set_option maxRecDepth 100000 in
abbrev cw_X1_8 (cs : Nat → ClassId) (h0 : Nat) (q0 : Nat) : va_W := ((h0, .inr (1, [.ref q0, .int 0])) :: (q0, cnI cs 16) :: [])
set_option maxHeartbeats 4000000 in
set_option maxRecDepth 100000 in
theorem cn_X1_8 (l : Launch) (D : va_G) (cs : Nat → ClassId) (h0 sz : Nat) : cnMet l D cs yX1_init cX1_init 2 { frames := 1, cells := 1, slots := 16, locals := 40 } [.int 8] (.inr (1, [.null, .int 0])) (fun h w => ∃ q0 : Nat, w = cw_X1_8 cs h q0) h0 sz 1 16 := by
  refine Met.ofW (cc := cX1_init) (maxL := 2) (ret := none) (by decide) rfl ?_
  intro p e s m args below meth c s₁ B hml hv
  obtain ⟨rfl, hsz, hP, hK, hD0, hO⟩ := hv
  have hx := B.exec
  have hb := B.bytes
  have hr := B.returns
  have hts0 := atoms_spec (ws := cnwd yX1_init cX1_init 2) B.pre
  have hts : ∀ w ∈ TBL, w.before _ s = true := fun w hw => hts0 w (List.mem_cons_of_mem _ hw)
  have hown : s.vm.findClass RX1 = some m.cls := findClass_of_methodNamed B.named
  have hlocks := B.notSynchronized
  have hin : meth.name = "<init>" := (name_of_methodNamed B.named B.method).1
  subst hsz
  have hD := hD0.self (sz := s.heap.size)
  generalize hAe : va_A [(h0, .inr (1, [.null, .int 0]))] s.heap.size = A at hD ⊢
  have hA : ∀ q : Nat, s.heap.size ≤ q → A q := fun q h => by rw [← hAe]; exact Or.inr h
  have hS : va_S A s.heap s.heap [] := va_S.rf
  have hl := lv_entry ([.ref h0, .int 8]) (n := 2) (Nat.le_of_ble_eq_true rfl)
  rw [lg_entry_eq]
  generalize (lg_sl ([.ref h0, .int 8]) ++ List.replicate (2 - (lg_sl ([.ref h0, .int 8])).length) Slot.unset).toArray = ls at hl ⊢
  have hl : lv_has ls 2 [(0, .ref h0), (1, .int 8)] := hl
  refine lv_aload_n hx hb dX1_init_0 rfl (lv_at hl 0 rfl) ?_
  refine W.objInit hx hb hown (hts _ (cnW _ (List.mem_of_getElem? (i := 14) rfl))) (hts _ (cnW _ (List.mem_of_getElem? (i := 1) rfl))) (hts _ (cnW _ (List.mem_of_getElem? (i := 2) rfl))) rfl (by rw [hml]; exact hl.1) rfl dX1_init_1 (Nat.le_of_ble_eq_true rfl) (Nat.le_of_ble_eq_true rfl) ?_
  refine W.eq (g2 := F0 m 4 ls []) rfl ?_
  refine lv_aload_n hx hb dX1_init_4 rfl (lv_at hl 0 rfl) ?_
  refine lv_iconst (v := 2) hx hb dX1_init_5 (by decide) ?_
  refine lv_iload_n hx hb dX1_init_6 rfl (lv_at hl 1 rfl) ?_
  refine lv_iconst (v := 0) hx hb dX1_init_7 (by decide) ?_
  refine va_mmax hx hb (by rw [hml]; exact hl.1.symm) hown (hts _ (cnW _ (List.mem_of_getElem? (i := 15) rfl))) (hts _ (cnW _ (List.mem_of_getElem? (i := 16) rfl))) (hts _ (cnW _ (List.mem_of_getElem? (i := 17) rfl))) (hts _ (cnW _ (List.mem_of_getElem? (i := 18) rfl))) (Nat.le_of_ble_eq_true rfl) (Nat.le_of_ble_eq_true rfl) (Nat.le_of_ble_eq_true rfl) (Nat.le_of_ble_eq_true rfl) dX1_init_8 ?_
  refine lv_imul hx hb dX1_init_11 ?_
  refine W.eq (g2 := F0 m 12 ls [.int 16, .ref h0]) (by congr 3) ?_
  refine cn_newi (N' := 16) (cs := cs) hx hb (hts _ (cnW _ (List.mem_of_getElem? (i := 5) rfl))) hK hP hD hS hA (by decide) rfl (Nat.le_of_ble_eq_true rfl) (Nat.le_of_ble_eq_true rfl) (Nat.le_of_ble_eq_true rfl) dX1_init_12 (fun q0 H hP hD hS => ?_)
  have hP : va_P D vwCl ((h0, .inr (1, [.null, .int 0])) :: (q0, cnI cs 16) :: []) H := hP
  have hD : va_D A ((h0, .inr (1, [.null, .int 0])) :: (q0, cnI cs 16) :: []) := hD
  refine W.widen (k := 1) (n := 16) (Nat.le_of_ble_eq_true rfl) (Nat.le_of_ble_eq_true rfl) ?_
  refine va_putF (D := D) (ci := 1) (v := .ref q0) (ty := .array .int) (C := RX1) (T := TX1) (N := 2) hx hb hts qcw_1 tyX1 tyX1_ok nmX1 hown hK hP hD hS 0 rfl rfl 0 (by decide) (hts _ (cnW _ (List.mem_of_getElem? (i := 19) rfl))) (fun _ h9 => h9) rfl hin rfl (by decide +kernel) rfl rfl (Nat.le_of_ble_eq_true rfl) dX1_init_14 (fun H locs hP hD hS => ?_)
  have hP : va_P D vwCl ((h0, .inr (1, [.ref q0, .int 0])) :: (q0, cnI cs 16) :: []) H := hP
  have hD : va_D A ((h0, .inr (1, [.ref q0, .int 0])) :: (q0, cnI cs 16) :: []) := hD
  exact W.vret hx hb hr (fun t ht hW => ⟨⟨(), rfl, trivial, cw_X1_8 cs h0 q0, ⟨q0, rfl⟩, by rw [ht]; exact hP, by rw [hAe]; exact hD⟩, hS.F ht⟩) hS.2.2 dX1_init_17
theorem dX6_init_0 : decode cX6_init 0 = .ok (.aload_n 0, 1) := by decide +kernel
theorem dX6_init_1 : decode cX6_init 1 = .ok (.invokespecial 3, 3) := by decide +kernel
theorem dX6_init_4 : decode cX6_init 4 = .ok (.aload_n 0, 1) := by decide +kernel
theorem dX6_init_5 : decode cX6_init 5 = .ok (.sipush 784, 3) := by decide +kernel
theorem dX6_init_8 : decode cX6_init 8 = .ok (.newarray .int, 2) := by decide +kernel
theorem dX6_init_10 : decode cX6_init 10 = .ok (.putfield 11, 3) := by decide +kernel
theorem dX6_init_13 : decode cX6_init 13 = .ok (.aload_n 0, 1) := by decide +kernel
theorem dX6_init_14 : decode cX6_init 14 = .ok (.aload_n 1, 1) := by decide +kernel
theorem dX6_init_15 : decode cX6_init 15 = .ok (.putfield 15, 3) := by decide +kernel
theorem dX6_init_18 : decode cX6_init 18 = .ok (.return_, 1) := by decide +kernel
set_option maxRecDepth 100000 in
abbrev cw_X6 (cs : Nat → ClassId) (h0 : Nat) (su : Nat) (q0 : Nat) : va_W := ((h0, .inr (6, [.ref su, .ref q0])) :: (q0, cnI cs 784) :: [])
set_option maxHeartbeats 4000000 in
set_option maxRecDepth 100000 in
theorem cn_X6 (l : Launch) (D : va_G) (cs : Nat → ClassId) (h0 sz : Nat) (su : Nat) : cnMet l D cs yX6_init cX6_init 2 { frames := 1, cells := 1, slots := 784, locals := 40 } [.ref su] (.inr (6, [.null, .null])) (fun h w => ∃ q0 : Nat, w = cw_X6 cs h su q0) h0 sz 1 784 := by
  refine Met.ofW (cc := cX6_init) (maxL := 2) (ret := none) (by decide) rfl ?_
  intro p e s m args below meth c s₁ B hml hv
  obtain ⟨rfl, hsz, hP, hK, hD0, hO⟩ := hv
  have hx := B.exec
  have hb := B.bytes
  have hr := B.returns
  have hts0 := atoms_spec (ws := cnwd yX6_init cX6_init 2) B.pre
  have hts : ∀ w ∈ TBL, w.before _ s = true := fun w hw => hts0 w (List.mem_cons_of_mem _ hw)
  have hown : s.vm.findClass RX6 = some m.cls := findClass_of_methodNamed B.named
  have hlocks := B.notSynchronized
  have hin : meth.name = "<init>" := (name_of_methodNamed B.named B.method).1
  subst hsz
  have hD := hD0.self (sz := s.heap.size)
  generalize hAe : va_A [(h0, .inr (6, [.null, .null]))] s.heap.size = A at hD ⊢
  have hA : ∀ q : Nat, s.heap.size ≤ q → A q := fun q h => by rw [← hAe]; exact Or.inr h
  have hS : va_S A s.heap s.heap [] := va_S.rf
  have hl := lv_entry ([.ref h0, .ref su]) (n := 2) (Nat.le_of_ble_eq_true rfl)
  rw [lg_entry_eq]
  generalize (lg_sl ([.ref h0, .ref su]) ++ List.replicate (2 - (lg_sl ([.ref h0, .ref su])).length) Slot.unset).toArray = ls at hl ⊢
  have hl : lv_has ls 2 [(0, .ref h0), (1, .ref su)] := hl
  refine lv_aload_n hx hb dX6_init_0 rfl (lv_at hl 0 rfl) ?_
  refine W.objInit hx hb hown (hts _ (cnW _ (List.mem_of_getElem? (i := 20) rfl))) (hts _ (cnW _ (List.mem_of_getElem? (i := 1) rfl))) (hts _ (cnW _ (List.mem_of_getElem? (i := 2) rfl))) rfl (by rw [hml]; exact hl.1) rfl dX6_init_1 (Nat.le_of_ble_eq_true rfl) (Nat.le_of_ble_eq_true rfl) ?_
  refine W.eq (g2 := F0 m 4 ls []) rfl ?_
  refine lv_aload_n hx hb dX6_init_4 rfl (lv_at hl 0 rfl) ?_
  refine lv_sipush (v := 784) hx hb dX6_init_5 (by decide) ?_
  refine cn_newi (N' := 784) (cs := cs) hx hb (hts _ (cnW _ (List.mem_of_getElem? (i := 5) rfl))) hK hP hD hS hA (by decide) rfl (Nat.le_of_ble_eq_true rfl) (Nat.le_of_ble_eq_true rfl) (Nat.le_of_ble_eq_true rfl) dX6_init_8 (fun q0 H hP hD hS => ?_)
  have hP : va_P D vwCl ((h0, .inr (6, [.null, .null])) :: (q0, cnI cs 784) :: []) H := hP
  have hD : va_D A ((h0, .inr (6, [.null, .null])) :: (q0, cnI cs 784) :: []) := hD
  refine W.widen (k := 1) (n := 784) (Nat.le_of_ble_eq_true rfl) (Nat.le_of_ble_eq_true rfl) ?_
  refine va_putF (D := D) (ci := 6) (v := .ref q0) (ty := .array .int) (C := RX6) (T := TX6) (N := 2) hx hb hts qcw_6 tyX6 tyX6_ok nmX6 hown hK hP hD hS 0 rfl rfl 1 (by decide) (hts _ (cnW _ (List.mem_of_getElem? (i := 21) rfl))) (fun _ h9 => h9) rfl hin rfl (by decide +kernel) rfl rfl (Nat.le_of_ble_eq_true rfl) dX6_init_10 (fun H locs hP hD hS => ?_)
  have hP : va_P D vwCl ((h0, .inr (6, [.null, .ref q0])) :: (q0, cnI cs 784) :: []) H := hP
  have hD : va_D A ((h0, .inr (6, [.null, .ref q0])) :: (q0, cnI cs 784) :: []) := hD
  refine lv_aload_n hx hb dX6_init_13 rfl (lv_at hl 0 rfl) ?_
  refine lv_aload_n hx hb dX6_init_14 rfl (lv_at hl 1 rfl) ?_
  refine va_putF (D := D) (ci := 6) (v := .ref su) (ty := .object "PlateCuts$Setup") (C := RX6) (T := TX6) (N := 2) hx hb hts qcw_6 tyX6 tyX6_ok nmX6 hown hK hP hD hS 0 rfl rfl 0 (by decide) (hts _ (cnW _ (List.mem_of_getElem? (i := 22) rfl))) (fun _ h9 => h9) rfl hin rfl (by decide +kernel) rfl rfl (Nat.le_of_ble_eq_true rfl) dX6_init_15 (fun H locs hP hD hS => ?_)
  have hP : va_P D vwCl ((h0, .inr (6, [.ref su, .ref q0])) :: (q0, cnI cs 784) :: []) H := hP
  have hD : va_D A ((h0, .inr (6, [.ref su, .ref q0])) :: (q0, cnI cs 784) :: []) := hD
  exact W.vret hx hb hr (fun t ht hW => ⟨⟨(), rfl, trivial, cw_X6 cs h0 su q0, ⟨q0, rfl⟩, by rw [ht]; exact hP, by rw [hAe]; exact hD⟩, hS.F ht⟩) hS.2.2 dX6_init_18
/-! ===== constructors ===== -/
theorem dX3_init_0 : decode cX3_init 0 = .ok (.aload_n 0, 1) := by decide +kernel
theorem dX3_init_1 : decode cX3_init 1 = .ok (.invokespecial 3, 3) := by decide +kernel
theorem dX3_init_4 : decode cX3_init 4 = .ok (.aload_n 0, 1) := by decide +kernel
theorem dX3_init_5 : decode cX3_init 5 = .ok (.new 9, 3) := by decide +kernel
theorem dX3_init_8 : decode cX3_init 8 = .ok (.dup, 1) := by decide +kernel
theorem dX3_init_9 : decode cX3_init 9 = .ok (.invokespecial 11, 3) := by decide +kernel
theorem dX3_init_12 : decode cX3_init 12 = .ok (.putfield 12, 3) := by decide +kernel
theorem dX3_init_15 : decode cX3_init 15 = .ok (.aload_n 0, 1) := by decide +kernel
theorem dX3_init_16 : decode cX3_init 16 = .ok (.new 18, 3) := by decide +kernel
theorem dX3_init_19 : decode cX3_init 19 = .ok (.dup, 1) := by decide +kernel
theorem dX3_init_20 : decode cX3_init 20 = .ok (.iconst 5, 1) := by decide +kernel
theorem dX3_init_21 : decode cX3_init 21 = .ok (.invokespecial 20, 3) := by decide +kernel
theorem dX3_init_24 : decode cX3_init 24 = .ok (.putfield 23, 3) := by decide +kernel
theorem dX3_init_27 : decode cX3_init 27 = .ok (.aload_n 0, 1) := by decide +kernel
theorem dX3_init_28 : decode cX3_init 28 = .ok (.new 18, 3) := by decide +kernel
theorem dX3_init_31 : decode cX3_init 31 = .ok (.dup, 1) := by decide +kernel
theorem dX3_init_32 : decode cX3_init 32 = .ok (.bipush 8, 2) := by decide +kernel
theorem dX3_init_34 : decode cX3_init 34 = .ok (.invokespecial 20, 3) := by decide +kernel
theorem dX3_init_37 : decode cX3_init 37 = .ok (.putfield 27, 3) := by decide +kernel
theorem dX3_init_40 : decode cX3_init 40 = .ok (.aload_n 0, 1) := by decide +kernel
theorem dX3_init_41 : decode cX3_init 41 = .ok (.new 18, 3) := by decide +kernel
theorem dX3_init_44 : decode cX3_init 44 = .ok (.dup, 1) := by decide +kernel
theorem dX3_init_45 : decode cX3_init 45 = .ok (.bipush 8, 2) := by decide +kernel
theorem dX3_init_47 : decode cX3_init 47 = .ok (.invokespecial 20, 3) := by decide +kernel
theorem dX3_init_50 : decode cX3_init 50 = .ok (.putfield 30, 3) := by decide +kernel
theorem dX3_init_53 : decode cX3_init 53 = .ok (.return_, 1) := by decide +kernel
theorem cn4_X3_9 : ∀ w ∈ ([.initialized RX2, .instanceMethod yX2_init, .code yX2_init cX2_init 1 none] : List Cond), w ∈ TBL := tb_of [49, 82, 83] (by decide +kernel) (by decide +kernel)
theorem cn4_X3_21 : ∀ w ∈ ([.initialized RX1, .methodLink RX3 20 yX1_init, .instanceMethod yX1_init, .code yX1_init cX1_init 2 none] : List Cond), w ∈ TBL := tb_of [50, 118, 119, 120] (by decide +kernel) (by decide +kernel)
theorem cn4_X3_34 : ∀ w ∈ ([.initialized RX1, .methodLink RX3 20 yX1_init, .instanceMethod yX1_init, .code yX1_init cX1_init 2 none] : List Cond), w ∈ TBL := tb_of [50, 118, 119, 120] (by decide +kernel) (by decide +kernel)
theorem cn4_X3_47 : ∀ w ∈ ([.initialized RX1, .methodLink RX3 20 yX1_init, .instanceMethod yX1_init, .code yX1_init cX1_init 2 none] : List Cond), w ∈ TBL := tb_of [50, 118, 119, 120] (by decide +kernel) (by decide +kernel)
set_option maxRecDepth 100000 in
abbrev cw_X3 (cs : Nat → ClassId) (h0 : Nat) (q0 : Nat) (q0_0 : Nat) (q1 : Nat) (q1_0 : Nat) (q2 : Nat) (q2_0 : Nat) (q3 : Nat) (q3_0 : Nat) : va_W := ((h0, .inr (3, [.ref q0, .ref q1, .ref q2, .ref q3])) :: (q0, .inr (2, [.int 4, .int 4, .int 0, .int 0, .long 0, .ref q0_0])) :: (q0_0, cnI cs 20) :: (q1, .inr (1, [.ref q1_0, .int 0])) :: (q1_0, cnI cs 10) :: (q2, .inr (1, [.ref q2_0, .int 0])) :: (q2_0, cnI cs 16) :: (q3, .inr (1, [.ref q3_0, .int 0])) :: (q3_0, cnI cs 16) :: [])
set_option maxHeartbeats 4000000 in
set_option maxRecDepth 100000 in
theorem cn_X3 (l : Launch) (D : va_G) (cs : Nat → ClassId) (h0 sz : Nat) : cnMet l D cs yX3_init cX3_init 1 { frames := 2, cells := 8, slots := 74, locals := 100 } [] (.inr (3, [.null, .null, .null, .null])) (fun h w => ∃ q0 q0_0 q1 q1_0 q2 q2_0 q3 q3_0 : Nat, w = cw_X3 cs h q0 q0_0 q1 q1_0 q2 q2_0 q3 q3_0) h0 sz 8 74 := by
  refine Met.ofW (cc := cX3_init) (maxL := 1) (ret := none) (by decide) rfl ?_
  intro p e s m args below meth c s₁ B hml hv
  obtain ⟨rfl, hsz, hP, hK, hD0, hO⟩ := hv
  have hx := B.exec
  have hb := B.bytes
  have hr := B.returns
  have hts0 := atoms_spec (ws := cnwd yX3_init cX3_init 1) B.pre
  have hts : ∀ w ∈ TBL, w.before _ s = true := fun w hw => hts0 w (List.mem_cons_of_mem _ hw)
  have hown : s.vm.findClass RX3 = some m.cls := findClass_of_methodNamed B.named
  have hlocks := B.notSynchronized
  have hin : meth.name = "<init>" := (name_of_methodNamed B.named B.method).1
  subst hsz
  have hD := hD0.self (sz := s.heap.size)
  generalize hAe : va_A [(h0, .inr (3, [.null, .null, .null, .null]))] s.heap.size = A at hD ⊢
  have hA : ∀ q : Nat, s.heap.size ≤ q → A q := fun q h => by rw [← hAe]; exact Or.inr h
  have hS : va_S A s.heap s.heap [] := va_S.rf
  have hl := lv_entry ([.ref h0]) (n := 1) (Nat.le_of_ble_eq_true rfl)
  rw [lg_entry_eq]
  generalize (lg_sl ([.ref h0]) ++ List.replicate (1 - (lg_sl ([.ref h0])).length) Slot.unset).toArray = ls at hl ⊢
  have hl : lv_has ls 1 [(0, .ref h0)] := hl
  refine lv_aload_n hx hb dX3_init_0 rfl (lv_at hl 0 rfl) ?_
  refine W.objInit hx hb hown (hts _ (cnW _ (List.mem_of_getElem? (i := 23) rfl))) (hts _ (cnW _ (List.mem_of_getElem? (i := 1) rfl))) (hts _ (cnW _ (List.mem_of_getElem? (i := 2) rfl))) rfl (by rw [hml]; exact hl.1) rfl dX3_init_1 (Nat.le_of_ble_eq_true rfl) (Nat.le_of_ble_eq_true rfl) ?_
  refine W.eq (g2 := F0 m 4 ls []) rfl ?_
  refine lv_aload_n hx hb dX3_init_4 rfl (lv_at hl 0 rfl) ?_
  refine va_new (ci := 2) (fs := [.int 0, .int 0, .int 0, .int 0, .long 0, .null]) (C := RX2) (T := TX2) (N := 6) hx hb hts qcw_2 tyX2 tyX2_ok hown (hts _ (cnW _ (List.mem_of_getElem? (i := 24) rfl))) (hts _ (cnW _ (List.mem_of_getElem? (i := 25) rfl))) (hts _ (cnW _ (List.mem_of_getElem? (i := 26) rfl))) hK hP hD hS hA rfl (fun j hj => by rcases (show j = 0 ∨ j = 1 ∨ j = 2 ∨ j = 3 ∨ j = 4 ∨ j = 5 by omega) with rfl | rfl | rfl | rfl | rfl | rfl <;> rfl) (Nat.le_of_ble_eq_true rfl) (Nat.le_of_ble_eq_true rfl) dX3_init_5 (fun q0 H hP hD hS => ?_)
  have hP : va_P D vwCl ((h0, .inr (3, [.null, .null, .null, .null])) :: (q0, .inr (2, [.int 0, .int 0, .int 0, .int 0, .long 0, .null])) :: []) H := hP
  have hD : va_D A ((h0, .inr (3, [.null, .null, .null, .null])) :: (q0, .inr (2, [.int 0, .int 0, .int 0, .int 0, .long 0, .null])) :: []) := hD
  refine W.widen (k := 1) (n := 6) (Nat.le_of_ble_eq_true rfl) (Nat.le_of_ble_eq_true rfl) ?_
  refine lv_dup hx hb dX3_init_8 rfl ?_
  refine cn_callN (D := D) (cs := cs) (wr := ((h0, .inr (3, [.null, .null, .null, .null])) :: [])) (q := q0) (As := []) (n := 0) (nL := 1) hx hb hml hown hts hO (fun h0 sz => cn_X2 l D cs h0 sz) (by decide +kernel) cn4_X3_9 rfl (by decide +kernel) rfl rfl rfl ⟨Nat.le_of_ble_eq_true rfl, Nat.le_of_ble_eq_true rfl⟩ hK hP hD hS hA hl.1 rfl (Nat.le_of_ble_eq_true rfl) dX3_init_9 ⟨Nat.le_of_ble_eq_true rfl, Nat.le_of_ble_eq_true rfl⟩ (fun w H locs hw hP hD hS => ?_)
  obtain ⟨q0_0, rfl⟩ := hw
  have hP : va_P D vwCl ((h0, .inr (3, [.null, .null, .null, .null])) :: (q0, .inr (2, [.int 4, .int 4, .int 0, .int 0, .long 0, .ref q0_0])) :: (q0_0, cnI cs 20) :: []) H := hP
  have hD : va_D A ((h0, .inr (3, [.null, .null, .null, .null])) :: (q0, .inr (2, [.int 4, .int 4, .int 0, .int 0, .long 0, .ref q0_0])) :: (q0_0, cnI cs 20) :: []) := hD
  refine W.widen (k := 2) (n := 26) (Nat.le_of_ble_eq_true rfl) (Nat.le_of_ble_eq_true rfl) ?_
  refine va_putF (D := D) (ci := 3) (v := .ref q0) (ty := .object "PlateCuts$Setup") (C := RX3) (T := TX3) (N := 4) hx hb hts qcw_3 tyX3 tyX3_ok nmX3 hown hK hP hD hS 0 rfl rfl 0 (by decide) (hts _ (cnW _ (List.mem_of_getElem? (i := 27) rfl))) (fun _ h9 => h9) rfl hin rfl (by decide +kernel) rfl rfl (Nat.le_of_ble_eq_true rfl) dX3_init_12 (fun H locs hP hD hS => ?_)
  have hP : va_P D vwCl ((h0, .inr (3, [.ref q0, .null, .null, .null])) :: (q0, .inr (2, [.int 4, .int 4, .int 0, .int 0, .long 0, .ref q0_0])) :: (q0_0, cnI cs 20) :: []) H := hP
  have hD : va_D A ((h0, .inr (3, [.ref q0, .null, .null, .null])) :: (q0, .inr (2, [.int 4, .int 4, .int 0, .int 0, .long 0, .ref q0_0])) :: (q0_0, cnI cs 20) :: []) := hD
  refine lv_aload_n hx hb dX3_init_15 rfl (lv_at hl 0 rfl) ?_
  refine va_new (ci := 1) (fs := [.null, .int 0]) (C := RX1) (T := TX1) (N := 2) hx hb hts qcw_1 tyX1 tyX1_ok hown (hts _ (cnW _ (List.mem_of_getElem? (i := 28) rfl))) (hts _ (cnW _ (List.mem_of_getElem? (i := 29) rfl))) (hts _ (cnW _ (List.mem_of_getElem? (i := 30) rfl))) hK hP hD hS hA rfl (fun j hj => by rcases (show j = 0 ∨ j = 1 by omega) with rfl | rfl <;> rfl) (Nat.le_of_ble_eq_true rfl) (Nat.le_of_ble_eq_true rfl) dX3_init_16 (fun q1 H hP hD hS => ?_)
  have hP : va_P D vwCl ((h0, .inr (3, [.ref q0, .null, .null, .null])) :: (q0, .inr (2, [.int 4, .int 4, .int 0, .int 0, .long 0, .ref q0_0])) :: (q0_0, cnI cs 20) :: (q1, .inr (1, [.null, .int 0])) :: []) H := hP
  have hD : va_D A ((h0, .inr (3, [.ref q0, .null, .null, .null])) :: (q0, .inr (2, [.int 4, .int 4, .int 0, .int 0, .long 0, .ref q0_0])) :: (q0_0, cnI cs 20) :: (q1, .inr (1, [.null, .int 0])) :: []) := hD
  refine W.widen (k := 3) (n := 28) (Nat.le_of_ble_eq_true rfl) (Nat.le_of_ble_eq_true rfl) ?_
  refine lv_dup hx hb dX3_init_19 rfl ?_
  refine lv_iconst (v := 5) hx hb dX3_init_20 (by decide) ?_
  refine cn_call (D := D) (cs := cs) (wr := ((h0, .inr (3, [.ref q0, .null, .null, .null])) :: (q0, .inr (2, [.int 4, .int 4, .int 0, .int 0, .long 0, .ref q0_0])) :: (q0_0, cnI cs 20) :: [])) (q := q1) (As := [.int 5]) (n := 1) (nL := 1) hx hb hml hown hts hO (fun h0 sz => cn_X1_5 l D cs h0 sz) cn4_X3_21 rfl (by decide +kernel) rfl rfl rfl ⟨Nat.le_of_ble_eq_true rfl, Nat.le_of_ble_eq_true rfl⟩ hK hP hD hS hA hl.1 rfl (Nat.le_of_ble_eq_true rfl) dX3_init_21 ⟨Nat.le_of_ble_eq_true rfl, Nat.le_of_ble_eq_true rfl⟩ (fun w H locs hw hP hD hS => ?_)
  obtain ⟨q1_0, rfl⟩ := hw
  have hP : va_P D vwCl ((h0, .inr (3, [.ref q0, .null, .null, .null])) :: (q0, .inr (2, [.int 4, .int 4, .int 0, .int 0, .long 0, .ref q0_0])) :: (q0_0, cnI cs 20) :: (q1, .inr (1, [.ref q1_0, .int 0])) :: (q1_0, cnI cs 10) :: []) H := hP
  have hD : va_D A ((h0, .inr (3, [.ref q0, .null, .null, .null])) :: (q0, .inr (2, [.int 4, .int 4, .int 0, .int 0, .long 0, .ref q0_0])) :: (q0_0, cnI cs 20) :: (q1, .inr (1, [.ref q1_0, .int 0])) :: (q1_0, cnI cs 10) :: []) := hD
  refine W.widen (k := 4) (n := 38) (Nat.le_of_ble_eq_true rfl) (Nat.le_of_ble_eq_true rfl) ?_
  refine va_putF (D := D) (ci := 3) (v := .ref q1) (ty := .object "PlateCuts$Rows") (C := RX3) (T := TX3) (N := 4) hx hb hts qcw_3 tyX3 tyX3_ok nmX3 hown hK hP hD hS 0 rfl rfl 1 (by decide) (hts _ (cnW _ (List.mem_of_getElem? (i := 31) rfl))) (fun _ h9 => h9) rfl hin rfl (by decide +kernel) rfl rfl (Nat.le_of_ble_eq_true rfl) dX3_init_24 (fun H locs hP hD hS => ?_)
  have hP : va_P D vwCl ((h0, .inr (3, [.ref q0, .ref q1, .null, .null])) :: (q0, .inr (2, [.int 4, .int 4, .int 0, .int 0, .long 0, .ref q0_0])) :: (q0_0, cnI cs 20) :: (q1, .inr (1, [.ref q1_0, .int 0])) :: (q1_0, cnI cs 10) :: []) H := hP
  have hD : va_D A ((h0, .inr (3, [.ref q0, .ref q1, .null, .null])) :: (q0, .inr (2, [.int 4, .int 4, .int 0, .int 0, .long 0, .ref q0_0])) :: (q0_0, cnI cs 20) :: (q1, .inr (1, [.ref q1_0, .int 0])) :: (q1_0, cnI cs 10) :: []) := hD
  refine lv_aload_n hx hb dX3_init_27 rfl (lv_at hl 0 rfl) ?_
  refine va_new (ci := 1) (fs := [.null, .int 0]) (C := RX1) (T := TX1) (N := 2) hx hb hts qcw_1 tyX1 tyX1_ok hown (hts _ (cnW _ (List.mem_of_getElem? (i := 28) rfl))) (hts _ (cnW _ (List.mem_of_getElem? (i := 29) rfl))) (hts _ (cnW _ (List.mem_of_getElem? (i := 30) rfl))) hK hP hD hS hA rfl (fun j hj => by rcases (show j = 0 ∨ j = 1 by omega) with rfl | rfl <;> rfl) (Nat.le_of_ble_eq_true rfl) (Nat.le_of_ble_eq_true rfl) dX3_init_28 (fun q2 H hP hD hS => ?_)
  have hP : va_P D vwCl ((h0, .inr (3, [.ref q0, .ref q1, .null, .null])) :: (q0, .inr (2, [.int 4, .int 4, .int 0, .int 0, .long 0, .ref q0_0])) :: (q0_0, cnI cs 20) :: (q1, .inr (1, [.ref q1_0, .int 0])) :: (q1_0, cnI cs 10) :: (q2, .inr (1, [.null, .int 0])) :: []) H := hP
  have hD : va_D A ((h0, .inr (3, [.ref q0, .ref q1, .null, .null])) :: (q0, .inr (2, [.int 4, .int 4, .int 0, .int 0, .long 0, .ref q0_0])) :: (q0_0, cnI cs 20) :: (q1, .inr (1, [.ref q1_0, .int 0])) :: (q1_0, cnI cs 10) :: (q2, .inr (1, [.null, .int 0])) :: []) := hD
  refine W.widen (k := 5) (n := 40) (Nat.le_of_ble_eq_true rfl) (Nat.le_of_ble_eq_true rfl) ?_
  refine lv_dup hx hb dX3_init_31 rfl ?_
  refine lv_bipush (v := 8) hx hb dX3_init_32 (by decide) ?_
  refine cn_call (D := D) (cs := cs) (wr := ((h0, .inr (3, [.ref q0, .ref q1, .null, .null])) :: (q0, .inr (2, [.int 4, .int 4, .int 0, .int 0, .long 0, .ref q0_0])) :: (q0_0, cnI cs 20) :: (q1, .inr (1, [.ref q1_0, .int 0])) :: (q1_0, cnI cs 10) :: [])) (q := q2) (As := [.int 8]) (n := 1) (nL := 1) hx hb hml hown hts hO (fun h0 sz => cn_X1_8 l D cs h0 sz) cn4_X3_34 rfl (by decide +kernel) rfl rfl rfl ⟨Nat.le_of_ble_eq_true rfl, Nat.le_of_ble_eq_true rfl⟩ hK hP hD hS hA hl.1 rfl (Nat.le_of_ble_eq_true rfl) dX3_init_34 ⟨Nat.le_of_ble_eq_true rfl, Nat.le_of_ble_eq_true rfl⟩ (fun w H locs hw hP hD hS => ?_)
  obtain ⟨q2_0, rfl⟩ := hw
  have hP : va_P D vwCl ((h0, .inr (3, [.ref q0, .ref q1, .null, .null])) :: (q0, .inr (2, [.int 4, .int 4, .int 0, .int 0, .long 0, .ref q0_0])) :: (q0_0, cnI cs 20) :: (q1, .inr (1, [.ref q1_0, .int 0])) :: (q1_0, cnI cs 10) :: (q2, .inr (1, [.ref q2_0, .int 0])) :: (q2_0, cnI cs 16) :: []) H := hP
  have hD : va_D A ((h0, .inr (3, [.ref q0, .ref q1, .null, .null])) :: (q0, .inr (2, [.int 4, .int 4, .int 0, .int 0, .long 0, .ref q0_0])) :: (q0_0, cnI cs 20) :: (q1, .inr (1, [.ref q1_0, .int 0])) :: (q1_0, cnI cs 10) :: (q2, .inr (1, [.ref q2_0, .int 0])) :: (q2_0, cnI cs 16) :: []) := hD
  refine W.widen (k := 6) (n := 56) (Nat.le_of_ble_eq_true rfl) (Nat.le_of_ble_eq_true rfl) ?_
  refine va_putF (D := D) (ci := 3) (v := .ref q2) (ty := .object "PlateCuts$Rows") (C := RX3) (T := TX3) (N := 4) hx hb hts qcw_3 tyX3 tyX3_ok nmX3 hown hK hP hD hS 0 rfl rfl 2 (by decide) (hts _ (cnW _ (List.mem_of_getElem? (i := 32) rfl))) (fun _ h9 => h9) rfl hin rfl (by decide +kernel) rfl rfl (Nat.le_of_ble_eq_true rfl) dX3_init_37 (fun H locs hP hD hS => ?_)
  have hP : va_P D vwCl ((h0, .inr (3, [.ref q0, .ref q1, .ref q2, .null])) :: (q0, .inr (2, [.int 4, .int 4, .int 0, .int 0, .long 0, .ref q0_0])) :: (q0_0, cnI cs 20) :: (q1, .inr (1, [.ref q1_0, .int 0])) :: (q1_0, cnI cs 10) :: (q2, .inr (1, [.ref q2_0, .int 0])) :: (q2_0, cnI cs 16) :: []) H := hP
  have hD : va_D A ((h0, .inr (3, [.ref q0, .ref q1, .ref q2, .null])) :: (q0, .inr (2, [.int 4, .int 4, .int 0, .int 0, .long 0, .ref q0_0])) :: (q0_0, cnI cs 20) :: (q1, .inr (1, [.ref q1_0, .int 0])) :: (q1_0, cnI cs 10) :: (q2, .inr (1, [.ref q2_0, .int 0])) :: (q2_0, cnI cs 16) :: []) := hD
  refine lv_aload_n hx hb dX3_init_40 rfl (lv_at hl 0 rfl) ?_
  refine va_new (ci := 1) (fs := [.null, .int 0]) (C := RX1) (T := TX1) (N := 2) hx hb hts qcw_1 tyX1 tyX1_ok hown (hts _ (cnW _ (List.mem_of_getElem? (i := 28) rfl))) (hts _ (cnW _ (List.mem_of_getElem? (i := 29) rfl))) (hts _ (cnW _ (List.mem_of_getElem? (i := 30) rfl))) hK hP hD hS hA rfl (fun j hj => by rcases (show j = 0 ∨ j = 1 by omega) with rfl | rfl <;> rfl) (Nat.le_of_ble_eq_true rfl) (Nat.le_of_ble_eq_true rfl) dX3_init_41 (fun q3 H hP hD hS => ?_)
  have hP : va_P D vwCl ((h0, .inr (3, [.ref q0, .ref q1, .ref q2, .null])) :: (q0, .inr (2, [.int 4, .int 4, .int 0, .int 0, .long 0, .ref q0_0])) :: (q0_0, cnI cs 20) :: (q1, .inr (1, [.ref q1_0, .int 0])) :: (q1_0, cnI cs 10) :: (q2, .inr (1, [.ref q2_0, .int 0])) :: (q2_0, cnI cs 16) :: (q3, .inr (1, [.null, .int 0])) :: []) H := hP
  have hD : va_D A ((h0, .inr (3, [.ref q0, .ref q1, .ref q2, .null])) :: (q0, .inr (2, [.int 4, .int 4, .int 0, .int 0, .long 0, .ref q0_0])) :: (q0_0, cnI cs 20) :: (q1, .inr (1, [.ref q1_0, .int 0])) :: (q1_0, cnI cs 10) :: (q2, .inr (1, [.ref q2_0, .int 0])) :: (q2_0, cnI cs 16) :: (q3, .inr (1, [.null, .int 0])) :: []) := hD
  refine W.widen (k := 7) (n := 58) (Nat.le_of_ble_eq_true rfl) (Nat.le_of_ble_eq_true rfl) ?_
  refine lv_dup hx hb dX3_init_44 rfl ?_
  refine lv_bipush (v := 8) hx hb dX3_init_45 (by decide) ?_
  refine cn_call (D := D) (cs := cs) (wr := ((h0, .inr (3, [.ref q0, .ref q1, .ref q2, .null])) :: (q0, .inr (2, [.int 4, .int 4, .int 0, .int 0, .long 0, .ref q0_0])) :: (q0_0, cnI cs 20) :: (q1, .inr (1, [.ref q1_0, .int 0])) :: (q1_0, cnI cs 10) :: (q2, .inr (1, [.ref q2_0, .int 0])) :: (q2_0, cnI cs 16) :: [])) (q := q3) (As := [.int 8]) (n := 1) (nL := 1) hx hb hml hown hts hO (fun h0 sz => cn_X1_8 l D cs h0 sz) cn4_X3_47 rfl (by decide +kernel) rfl rfl rfl ⟨Nat.le_of_ble_eq_true rfl, Nat.le_of_ble_eq_true rfl⟩ hK hP hD hS hA hl.1 rfl (Nat.le_of_ble_eq_true rfl) dX3_init_47 ⟨Nat.le_of_ble_eq_true rfl, Nat.le_of_ble_eq_true rfl⟩ (fun w H locs hw hP hD hS => ?_)
  obtain ⟨q3_0, rfl⟩ := hw
  have hP : va_P D vwCl ((h0, .inr (3, [.ref q0, .ref q1, .ref q2, .null])) :: (q0, .inr (2, [.int 4, .int 4, .int 0, .int 0, .long 0, .ref q0_0])) :: (q0_0, cnI cs 20) :: (q1, .inr (1, [.ref q1_0, .int 0])) :: (q1_0, cnI cs 10) :: (q2, .inr (1, [.ref q2_0, .int 0])) :: (q2_0, cnI cs 16) :: (q3, .inr (1, [.ref q3_0, .int 0])) :: (q3_0, cnI cs 16) :: []) H := hP
  have hD : va_D A ((h0, .inr (3, [.ref q0, .ref q1, .ref q2, .null])) :: (q0, .inr (2, [.int 4, .int 4, .int 0, .int 0, .long 0, .ref q0_0])) :: (q0_0, cnI cs 20) :: (q1, .inr (1, [.ref q1_0, .int 0])) :: (q1_0, cnI cs 10) :: (q2, .inr (1, [.ref q2_0, .int 0])) :: (q2_0, cnI cs 16) :: (q3, .inr (1, [.ref q3_0, .int 0])) :: (q3_0, cnI cs 16) :: []) := hD
  refine W.widen (k := 8) (n := 74) (Nat.le_of_ble_eq_true rfl) (Nat.le_of_ble_eq_true rfl) ?_
  refine va_putF (D := D) (ci := 3) (v := .ref q3) (ty := .object "PlateCuts$Rows") (C := RX3) (T := TX3) (N := 4) hx hb hts qcw_3 tyX3 tyX3_ok nmX3 hown hK hP hD hS 0 rfl rfl 3 (by decide) (hts _ (cnW _ (List.mem_of_getElem? (i := 33) rfl))) (fun _ h9 => h9) rfl hin rfl (by decide +kernel) rfl rfl (Nat.le_of_ble_eq_true rfl) dX3_init_50 (fun H locs hP hD hS => ?_)
  have hP : va_P D vwCl ((h0, .inr (3, [.ref q0, .ref q1, .ref q2, .ref q3])) :: (q0, .inr (2, [.int 4, .int 4, .int 0, .int 0, .long 0, .ref q0_0])) :: (q0_0, cnI cs 20) :: (q1, .inr (1, [.ref q1_0, .int 0])) :: (q1_0, cnI cs 10) :: (q2, .inr (1, [.ref q2_0, .int 0])) :: (q2_0, cnI cs 16) :: (q3, .inr (1, [.ref q3_0, .int 0])) :: (q3_0, cnI cs 16) :: []) H := hP
  have hD : va_D A ((h0, .inr (3, [.ref q0, .ref q1, .ref q2, .ref q3])) :: (q0, .inr (2, [.int 4, .int 4, .int 0, .int 0, .long 0, .ref q0_0])) :: (q0_0, cnI cs 20) :: (q1, .inr (1, [.ref q1_0, .int 0])) :: (q1_0, cnI cs 10) :: (q2, .inr (1, [.ref q2_0, .int 0])) :: (q2_0, cnI cs 16) :: (q3, .inr (1, [.ref q3_0, .int 0])) :: (q3_0, cnI cs 16) :: []) := hD
  exact W.vret hx hb hr (fun t ht hW => ⟨⟨(), rfl, trivial, cw_X3 cs h0 q0 q0_0 q1 q1_0 q2 q2_0 q3 q3_0, ⟨q0, q0_0, q1, q1_0, q2, q2_0, q3, q3_0, rfl⟩, by rw [ht]; exact hP, by rw [hAe]; exact hD⟩, hS.F ht⟩) hS.2.2 dX3_init_53
theorem dX0_init_0 : decode cX0_init 0 = .ok (.aload_n 0, 1) := by decide +kernel
theorem dX0_init_1 : decode cX0_init 1 = .ok (.invokespecial 3, 3) := by decide +kernel
theorem dX0_init_4 : decode cX0_init 4 = .ok (.aload_n 0, 1) := by decide +kernel
theorem dX0_init_5 : decode cX0_init 5 = .ok (.sipush 776, 3) := by decide +kernel
theorem dX0_init_8 : decode cX0_init 8 = .ok (.newarray .int, 2) := by decide +kernel
theorem dX0_init_10 : decode cX0_init 10 = .ok (.putfield 9, 3) := by decide +kernel
theorem dX0_init_13 : decode cX0_init 13 = .ok (.aload_n 0, 1) := by decide +kernel
theorem dX0_init_14 : decode cX0_init 14 = .ok (.iconst 5, 1) := by decide +kernel
theorem dX0_init_15 : decode cX0_init 15 = .ok (.newarray .int, 2) := by decide +kernel
theorem dX0_init_17 : decode cX0_init 17 = .ok (.putfield 15, 3) := by decide +kernel
theorem dX0_init_20 : decode cX0_init 20 = .ok (.aload_n 0, 1) := by decide +kernel
theorem dX0_init_21 : decode cX0_init 21 = .ok (.aload_n 1, 1) := by decide +kernel
theorem dX0_init_22 : decode cX0_init 22 = .ok (.putfield 18, 3) := by decide +kernel
theorem dX0_init_25 : decode cX0_init 25 = .ok (.aload_n 0, 1) := by decide +kernel
theorem dX0_init_26 : decode cX0_init 26 = .ok (.new 22, 3) := by decide +kernel
theorem dX0_init_29 : decode cX0_init 29 = .ok (.dup, 1) := by decide +kernel
theorem dX0_init_30 : decode cX0_init 30 = .ok (.aload_n 1, 1) := by decide +kernel
theorem dX0_init_31 : decode cX0_init 31 = .ok (.invokespecial 24, 3) := by decide +kernel
theorem dX0_init_34 : decode cX0_init 34 = .ok (.putfield 27, 3) := by decide +kernel
theorem dX0_init_37 : decode cX0_init 37 = .ok (.return_, 1) := by decide +kernel
theorem cn4_X0_31 : ∀ w ∈ ([.initialized RX6, .methodLink RX0 24 yX6_init, .instanceMethod yX6_init, .code yX6_init cX6_init 2 none] : List Cond), w ∈ TBL := tb_of [53, 159, 160, 161] (by decide +kernel) (by decide +kernel)
set_option maxRecDepth 100000 in
abbrev cw_X0 (cs : Nat → ClassId) (h0 : Nat) (su : Nat) (q0 : Nat) (q1 : Nat) (q2 : Nat) (q2_0 : Nat) : va_W := ((h0, .inr (0, [.ref su, .ref q2, .ref q0, .ref q1, .int 0, .int 0, .int 0, .int 0, .int 0])) :: (q0, cnI cs 776) :: (q1, cnI cs 5) :: (q2, .inr (6, [.ref su, .ref q2_0])) :: (q2_0, cnI cs 784) :: [])
set_option maxHeartbeats 4000000 in
set_option maxRecDepth 100000 in
theorem cn_X0 (l : Launch) (D : va_G) (cs : Nat → ClassId) (h0 sz : Nat) (su : Nat) : cnMet l D cs yX0_init cX0_init 2 { frames := 2, cells := 4, slots := 1567, locals := 100 } [.ref su] (.inr (0, [.null, .null, .null, .null, .int 0, .int 0, .int 0, .int 0, .int 0])) (fun h w => ∃ q0 q1 q2 q2_0 : Nat, w = cw_X0 cs h su q0 q1 q2 q2_0) h0 sz 4 1567 := by
  refine Met.ofW (cc := cX0_init) (maxL := 2) (ret := none) (by decide) rfl ?_
  intro p e s m args below meth c s₁ B hml hv
  obtain ⟨rfl, hsz, hP, hK, hD0, hO⟩ := hv
  have hx := B.exec
  have hb := B.bytes
  have hr := B.returns
  have hts0 := atoms_spec (ws := cnwd yX0_init cX0_init 2) B.pre
  have hts : ∀ w ∈ TBL, w.before _ s = true := fun w hw => hts0 w (List.mem_cons_of_mem _ hw)
  have hown : s.vm.findClass RX0 = some m.cls := findClass_of_methodNamed B.named
  have hlocks := B.notSynchronized
  have hin : meth.name = "<init>" := (name_of_methodNamed B.named B.method).1
  subst hsz
  have hD := hD0.self (sz := s.heap.size)
  generalize hAe : va_A [(h0, .inr (0, [.null, .null, .null, .null, .int 0, .int 0, .int 0, .int 0, .int 0]))] s.heap.size = A at hD ⊢
  have hA : ∀ q : Nat, s.heap.size ≤ q → A q := fun q h => by rw [← hAe]; exact Or.inr h
  have hS : va_S A s.heap s.heap [] := va_S.rf
  have hl := lv_entry ([.ref h0, .ref su]) (n := 2) (Nat.le_of_ble_eq_true rfl)
  rw [lg_entry_eq]
  generalize (lg_sl ([.ref h0, .ref su]) ++ List.replicate (2 - (lg_sl ([.ref h0, .ref su])).length) Slot.unset).toArray = ls at hl ⊢
  have hl : lv_has ls 2 [(0, .ref h0), (1, .ref su)] := hl
  refine lv_aload_n hx hb dX0_init_0 rfl (lv_at hl 0 rfl) ?_
  refine W.objInit hx hb hown (hts _ (cnW _ (List.mem_of_getElem? (i := 34) rfl))) (hts _ (cnW _ (List.mem_of_getElem? (i := 1) rfl))) (hts _ (cnW _ (List.mem_of_getElem? (i := 2) rfl))) rfl (by rw [hml]; exact hl.1) rfl dX0_init_1 (Nat.le_of_ble_eq_true rfl) (Nat.le_of_ble_eq_true rfl) ?_
  refine W.eq (g2 := F0 m 4 ls []) rfl ?_
  refine lv_aload_n hx hb dX0_init_4 rfl (lv_at hl 0 rfl) ?_
  refine lv_sipush (v := 776) hx hb dX0_init_5 (by decide) ?_
  refine cn_newi (N' := 776) (cs := cs) hx hb (hts _ (cnW _ (List.mem_of_getElem? (i := 5) rfl))) hK hP hD hS hA (by decide) rfl (Nat.le_of_ble_eq_true rfl) (Nat.le_of_ble_eq_true rfl) (Nat.le_of_ble_eq_true rfl) dX0_init_8 (fun q0 H hP hD hS => ?_)
  have hP : va_P D vwCl ((h0, .inr (0, [.null, .null, .null, .null, .int 0, .int 0, .int 0, .int 0, .int 0])) :: (q0, cnI cs 776) :: []) H := hP
  have hD : va_D A ((h0, .inr (0, [.null, .null, .null, .null, .int 0, .int 0, .int 0, .int 0, .int 0])) :: (q0, cnI cs 776) :: []) := hD
  refine W.widen (k := 1) (n := 776) (Nat.le_of_ble_eq_true rfl) (Nat.le_of_ble_eq_true rfl) ?_
  refine va_putF (D := D) (ci := 0) (v := .ref q0) (ty := .array .int) (C := RX0) (T := TX0) (N := 9) hx hb hts qcw_0 tyX0 tyX0_ok nmX0 hown hK hP hD hS 0 rfl rfl 2 (by decide) (hts _ (cnW _ (List.mem_of_getElem? (i := 35) rfl))) (fun _ h9 => h9) rfl hin rfl (by decide +kernel) rfl rfl (Nat.le_of_ble_eq_true rfl) dX0_init_10 (fun H locs hP hD hS => ?_)
  have hP : va_P D vwCl ((h0, .inr (0, [.null, .null, .ref q0, .null, .int 0, .int 0, .int 0, .int 0, .int 0])) :: (q0, cnI cs 776) :: []) H := hP
  have hD : va_D A ((h0, .inr (0, [.null, .null, .ref q0, .null, .int 0, .int 0, .int 0, .int 0, .int 0])) :: (q0, cnI cs 776) :: []) := hD
  refine lv_aload_n hx hb dX0_init_13 rfl (lv_at hl 0 rfl) ?_
  refine lv_iconst (v := 5) hx hb dX0_init_14 (by decide) ?_
  refine cn_newi (N' := 5) (cs := cs) hx hb (hts _ (cnW _ (List.mem_of_getElem? (i := 5) rfl))) hK hP hD hS hA (by decide) rfl (Nat.le_of_ble_eq_true rfl) (Nat.le_of_ble_eq_true rfl) (Nat.le_of_ble_eq_true rfl) dX0_init_15 (fun q1 H hP hD hS => ?_)
  have hP : va_P D vwCl ((h0, .inr (0, [.null, .null, .ref q0, .null, .int 0, .int 0, .int 0, .int 0, .int 0])) :: (q0, cnI cs 776) :: (q1, cnI cs 5) :: []) H := hP
  have hD : va_D A ((h0, .inr (0, [.null, .null, .ref q0, .null, .int 0, .int 0, .int 0, .int 0, .int 0])) :: (q0, cnI cs 776) :: (q1, cnI cs 5) :: []) := hD
  refine W.widen (k := 2) (n := 781) (Nat.le_of_ble_eq_true rfl) (Nat.le_of_ble_eq_true rfl) ?_
  refine va_putF (D := D) (ci := 0) (v := .ref q1) (ty := .array .int) (C := RX0) (T := TX0) (N := 9) hx hb hts qcw_0 tyX0 tyX0_ok nmX0 hown hK hP hD hS 0 rfl rfl 3 (by decide) (hts _ (cnW _ (List.mem_of_getElem? (i := 36) rfl))) (fun _ h9 => h9) rfl hin rfl (by decide +kernel) rfl rfl (Nat.le_of_ble_eq_true rfl) dX0_init_17 (fun H locs hP hD hS => ?_)
  have hP : va_P D vwCl ((h0, .inr (0, [.null, .null, .ref q0, .ref q1, .int 0, .int 0, .int 0, .int 0, .int 0])) :: (q0, cnI cs 776) :: (q1, cnI cs 5) :: []) H := hP
  have hD : va_D A ((h0, .inr (0, [.null, .null, .ref q0, .ref q1, .int 0, .int 0, .int 0, .int 0, .int 0])) :: (q0, cnI cs 776) :: (q1, cnI cs 5) :: []) := hD
  refine lv_aload_n hx hb dX0_init_20 rfl (lv_at hl 0 rfl) ?_
  refine lv_aload_n hx hb dX0_init_21 rfl (lv_at hl 1 rfl) ?_
  refine va_putF (D := D) (ci := 0) (v := .ref su) (ty := .object "PlateCuts$Setup") (C := RX0) (T := TX0) (N := 9) hx hb hts qcw_0 tyX0 tyX0_ok nmX0 hown hK hP hD hS 0 rfl rfl 0 (by decide) (hts _ (cnW _ (List.mem_of_getElem? (i := 37) rfl))) (fun _ h9 => h9) rfl hin rfl (by decide +kernel) rfl rfl (Nat.le_of_ble_eq_true rfl) dX0_init_22 (fun H locs hP hD hS => ?_)
  have hP : va_P D vwCl ((h0, .inr (0, [.ref su, .null, .ref q0, .ref q1, .int 0, .int 0, .int 0, .int 0, .int 0])) :: (q0, cnI cs 776) :: (q1, cnI cs 5) :: []) H := hP
  have hD : va_D A ((h0, .inr (0, [.ref su, .null, .ref q0, .ref q1, .int 0, .int 0, .int 0, .int 0, .int 0])) :: (q0, cnI cs 776) :: (q1, cnI cs 5) :: []) := hD
  refine lv_aload_n hx hb dX0_init_25 rfl (lv_at hl 0 rfl) ?_
  refine va_new (ci := 6) (fs := [.null, .null]) (C := RX6) (T := TX6) (N := 2) hx hb hts qcw_6 tyX6 tyX6_ok hown (hts _ (cnW _ (List.mem_of_getElem? (i := 38) rfl))) (hts _ (cnW _ (List.mem_of_getElem? (i := 39) rfl))) (hts _ (cnW _ (List.mem_of_getElem? (i := 40) rfl))) hK hP hD hS hA rfl (fun j hj => by rcases (show j = 0 ∨ j = 1 by omega) with rfl | rfl <;> rfl) (Nat.le_of_ble_eq_true rfl) (Nat.le_of_ble_eq_true rfl) dX0_init_26 (fun q2 H hP hD hS => ?_)
  have hP : va_P D vwCl ((h0, .inr (0, [.ref su, .null, .ref q0, .ref q1, .int 0, .int 0, .int 0, .int 0, .int 0])) :: (q0, cnI cs 776) :: (q1, cnI cs 5) :: (q2, .inr (6, [.null, .null])) :: []) H := hP
  have hD : va_D A ((h0, .inr (0, [.ref su, .null, .ref q0, .ref q1, .int 0, .int 0, .int 0, .int 0, .int 0])) :: (q0, cnI cs 776) :: (q1, cnI cs 5) :: (q2, .inr (6, [.null, .null])) :: []) := hD
  refine W.widen (k := 3) (n := 783) (Nat.le_of_ble_eq_true rfl) (Nat.le_of_ble_eq_true rfl) ?_
  refine lv_dup hx hb dX0_init_29 rfl ?_
  refine lv_aload_n hx hb dX0_init_30 rfl (lv_at hl 1 rfl) ?_
  refine cn_call (D := D) (cs := cs) (wr := ((h0, .inr (0, [.ref su, .null, .ref q0, .ref q1, .int 0, .int 0, .int 0, .int 0, .int 0])) :: (q0, cnI cs 776) :: (q1, cnI cs 5) :: [])) (q := q2) (As := [.ref su]) (n := 1) (nL := 2) hx hb hml hown hts hO (fun h0 sz => cn_X6 l D cs h0 sz su) cn4_X0_31 rfl (by decide +kernel) rfl rfl rfl ⟨Nat.le_of_ble_eq_true rfl, Nat.le_of_ble_eq_true rfl⟩ hK hP hD hS hA hl.1 rfl (Nat.le_of_ble_eq_true rfl) dX0_init_31 ⟨Nat.le_of_ble_eq_true rfl, Nat.le_of_ble_eq_true rfl⟩ (fun w H locs hw hP hD hS => ?_)
  obtain ⟨q2_0, rfl⟩ := hw
  have hP : va_P D vwCl ((h0, .inr (0, [.ref su, .null, .ref q0, .ref q1, .int 0, .int 0, .int 0, .int 0, .int 0])) :: (q0, cnI cs 776) :: (q1, cnI cs 5) :: (q2, .inr (6, [.ref su, .ref q2_0])) :: (q2_0, cnI cs 784) :: []) H := hP
  have hD : va_D A ((h0, .inr (0, [.ref su, .null, .ref q0, .ref q1, .int 0, .int 0, .int 0, .int 0, .int 0])) :: (q0, cnI cs 776) :: (q1, cnI cs 5) :: (q2, .inr (6, [.ref su, .ref q2_0])) :: (q2_0, cnI cs 784) :: []) := hD
  refine W.widen (k := 4) (n := 1567) (Nat.le_of_ble_eq_true rfl) (Nat.le_of_ble_eq_true rfl) ?_
  refine va_putF (D := D) (ci := 0) (v := .ref q2) (ty := .object "PlateCuts$Worths") (C := RX0) (T := TX0) (N := 9) hx hb hts qcw_0 tyX0 tyX0_ok nmX0 hown hK hP hD hS 0 rfl rfl 1 (by decide) (hts _ (cnW _ (List.mem_of_getElem? (i := 41) rfl))) (fun _ h9 => h9) rfl hin rfl (by decide +kernel) rfl rfl (Nat.le_of_ble_eq_true rfl) dX0_init_34 (fun H locs hP hD hS => ?_)
  have hP : va_P D vwCl ((h0, .inr (0, [.ref su, .ref q2, .ref q0, .ref q1, .int 0, .int 0, .int 0, .int 0, .int 0])) :: (q0, cnI cs 776) :: (q1, cnI cs 5) :: (q2, .inr (6, [.ref su, .ref q2_0])) :: (q2_0, cnI cs 784) :: []) H := hP
  have hD : va_D A ((h0, .inr (0, [.ref su, .ref q2, .ref q0, .ref q1, .int 0, .int 0, .int 0, .int 0, .int 0])) :: (q0, cnI cs 776) :: (q1, cnI cs 5) :: (q2, .inr (6, [.ref su, .ref q2_0])) :: (q2_0, cnI cs 784) :: []) := hD
  exact W.vret hx hb hr (fun t ht hW => ⟨⟨(), rfl, trivial, cw_X0 cs h0 su q0 q1 q2 q2_0, ⟨q0, q1, q2, q2_0, rfl⟩, by rw [ht]; exact hP, by rw [hAe]; exact hD⟩, hS.F ht⟩) hS.2.2 dX0_init_37
