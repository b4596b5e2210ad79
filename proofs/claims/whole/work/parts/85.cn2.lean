/-! ===== constructors ===== -/
theorem dX2_init_0 : decode cX2_init 0 = .ok (.aload_n 0, 1) := by decide +kernel
theorem dX2_init_1 : decode cX2_init 1 = .ok (.invokespecial 3, 3) := by decide +kernel
theorem dX2_init_4 : decode cX2_init 4 = .ok (.aload_n 0, 1) := by decide +kernel
theorem dX2_init_5 : decode cX2_init 5 = .ok (.iconst 4, 1) := by decide +kernel
theorem dX2_init_6 : decode cX2_init 6 = .ok (.putfield 9, 3) := by decide +kernel
theorem dX2_init_9 : decode cX2_init 9 = .ok (.aload_n 0, 1) := by decide +kernel
theorem dX2_init_10 : decode cX2_init 10 = .ok (.iconst 4, 1) := by decide +kernel
theorem dX2_init_11 : decode cX2_init 11 = .ok (.putfield 15, 3) := by decide +kernel
theorem dX2_init_14 : decode cX2_init 14 = .ok (.aload_n 0, 1) := by decide +kernel
theorem dX2_init_15 : decode cX2_init 15 = .ok (.bipush 20, 2) := by decide +kernel
theorem dX2_init_17 : decode cX2_init 17 = .ok (.newarray .int, 2) := by decide +kernel
theorem dX2_init_19 : decode cX2_init 19 = .ok (.putfield 18, 3) := by decide +kernel
theorem dX2_init_22 : decode cX2_init 22 = .ok (.return_, 1) := by decide +kernel
abbrev cw_X2 (cs : Nat → ClassId) (h0 : Nat) (q0 : Nat) : va_W := (h0, .inr (2, [.int 4, .int 4, .int 0, .int 0, .long 0, .ref q0])) :: ([] ++ [(q0, cnI cs 20)])
set_option maxHeartbeats 4000000 in
set_option maxRecDepth 100000 in
theorem cn_X2 (l : Launch) (D : va_G) (cs : Nat → ClassId) (h0 sz : Nat) : cnMet l D cs yX2_init cX2_init 1 { frames := 1, cells := 1, slots := 20, locals := 40 } [] (.inr (2, [.int 0, .int 0, .int 0, .int 0, .long 0, .null])) (fun h w => ∃ q0 : Nat, w = cw_X2 cs h q0) h0 sz 1 20 := by
  refine Met.ofW (cc := cX2_init) (maxL := 1) (ret := none) (by decide) rfl ?_
  intro p e s m args below meth c s₁ B hml hv
  obtain ⟨rfl, hsz, hP, hK, hD0, hO⟩ := hv
  have hx := B.exec
  have hb := B.bytes
  have hr := B.returns
  have hts0 := atoms_spec (ws := cnwd yX2_init cX2_init 1) B.pre
  have hts : ∀ w ∈ TBL, w.before _ s = true := fun w hw => hts0 w (List.mem_cons_of_mem _ hw)
  have hown : s.vm.findClass RX2 = some m.cls := findClass_of_methodNamed B.named
  have hlocks := B.notSynchronized
  have hin : meth.name = "<init>" := (name_of_methodNamed B.named B.method).1
  subst hsz
  have hD := hD0.self (sz := s.heap.size)
  generalize hAe : va_A [(h0, .inr (2, [.int 0, .int 0, .int 0, .int 0, .long 0, .null]))] s.heap.size = A at hD ⊢
  have hA : ∀ q : Nat, s.heap.size ≤ q → A q := fun q h => by rw [← hAe]; exact Or.inr h
  have hS : va_S A s.heap s.heap [] := va_S.rf
  have hl := lv_entry ([.ref h0]) (n := 1) (Nat.le_of_ble_eq_true rfl)
  rw [lg_entry_eq]
  generalize (lg_sl ([.ref h0]) ++ List.replicate (1 - (lg_sl ([.ref h0])).length) Slot.unset).toArray = ls at hl ⊢
  have hl : lv_has ls 1 [(0, .ref h0)] := hl
  refine lv_aload_n hx hb dX2_init_0 rfl (lv_at hl 0 rfl) ?_
  refine W.objInit hx hb hown (hts _ (cnW _ (List.mem_of_getElem? (i := 0) rfl))) (hts _ (cnW _ (List.mem_of_getElem? (i := 1) rfl))) (hts _ (cnW _ (List.mem_of_getElem? (i := 2) rfl))) rfl (by rw [hml]; exact hl.1) rfl dX2_init_1 (Nat.le_of_ble_eq_true rfl) (Nat.le_of_ble_eq_true rfl) ?_
  refine W.eq (g2 := F0 m 4 ls []) rfl ?_
  refine lv_aload_n hx hb dX2_init_4 rfl (lv_at hl 0 rfl) ?_
  refine lv_iconst (v := 4) hx hb dX2_init_5 (by decide) ?_
  refine va_put (D := D) (ci := 2) (v := .int 4) (ty := .int) (C := RX2) (T := TX2) (N := 6) hx hb hts qcw_2 tyX2 tyX2_ok nmX2 hown hK hP hD hS 0 rfl rfl 0 (by decide) (hts _ (cnW _ (List.mem_of_getElem? (i := 3) rfl))) (fun _ h9 => h9) rfl (by decide +kernel) rfl rfl (Nat.le_of_ble_eq_true rfl) dX2_init_6 (fun H locs hP hD hS => ?_)
  have hP : va_P D vwCl ((h0, .inr (2, [.int 4, .int 0, .int 0, .int 0, .long 0, .null])) :: []) H := hP
  have hD : va_D A ((h0, .inr (2, [.int 4, .int 0, .int 0, .int 0, .long 0, .null])) :: []) := hD
  refine lv_aload_n hx hb dX2_init_9 rfl (lv_at hl 0 rfl) ?_
  refine lv_iconst (v := 4) hx hb dX2_init_10 (by decide) ?_
  refine va_put (D := D) (ci := 2) (v := .int 4) (ty := .int) (C := RX2) (T := TX2) (N := 6) hx hb hts qcw_2 tyX2 tyX2_ok nmX2 hown hK hP hD hS 0 rfl rfl 1 (by decide) (hts _ (cnW _ (List.mem_of_getElem? (i := 4) rfl))) (fun _ h9 => h9) rfl (by decide +kernel) rfl rfl (Nat.le_of_ble_eq_true rfl) dX2_init_11 (fun H locs hP hD hS => ?_)
  have hP : va_P D vwCl ((h0, .inr (2, [.int 4, .int 4, .int 0, .int 0, .long 0, .null])) :: []) H := hP
  have hD : va_D A ((h0, .inr (2, [.int 4, .int 4, .int 0, .int 0, .long 0, .null])) :: []) := hD
  refine lv_aload_n hx hb dX2_init_14 rfl (lv_at hl 0 rfl) ?_
  refine lv_bipush (v := 20) hx hb dX2_init_15 (by decide) ?_
  refine cn_newi (N' := 20) (cs := cs) hx hb (hts _ (cnW _ (List.mem_of_getElem? (i := 5) rfl))) hK hP hD hS hA (by decide) rfl (Nat.le_of_ble_eq_true rfl) (Nat.le_of_ble_eq_true rfl) (Nat.le_of_ble_eq_true rfl) dX2_init_17 (fun q0 H hP hD hS => ?_)
  have hP : va_P D vwCl ((h0, .inr (2, [.int 4, .int 4, .int 0, .int 0, .long 0, .null])) :: ([] ++ [(q0, cnI cs 20)])) H := hP
  have hD : va_D A ((h0, .inr (2, [.int 4, .int 4, .int 0, .int 0, .long 0, .null])) :: ([] ++ [(q0, cnI cs 20)])) := hD
  refine W.widen (k := 1) (n := 20) (Nat.le_of_ble_eq_true rfl) (Nat.le_of_ble_eq_true rfl) ?_
  refine va_putF (D := D) (ci := 2) (v := .ref q0) (ty := .array .int) (C := RX2) (T := TX2) (N := 6) hx hb hts qcw_2 tyX2 tyX2_ok nmX2 hown hK hP hD hS 0 rfl rfl 5 (by decide) (hts _ (cnW _ (List.mem_of_getElem? (i := 6) rfl))) (fun _ h9 => h9) rfl hin rfl (by decide +kernel) rfl rfl (Nat.le_of_ble_eq_true rfl) dX2_init_19 (fun H locs hP hD hS => ?_)
  have hP : va_P D vwCl ((h0, .inr (2, [.int 4, .int 4, .int 0, .int 0, .long 0, .ref q0])) :: ([] ++ [(q0, cnI cs 20)])) H := hP
  have hD : va_D A ((h0, .inr (2, [.int 4, .int 4, .int 0, .int 0, .long 0, .ref q0])) :: ([] ++ [(q0, cnI cs 20)])) := hD
  exact W.vret hx hb hr (fun t ht hW => ⟨⟨(), rfl, trivial, cw_X2 cs h0 q0, ⟨q0, rfl⟩, by rw [ht]; exact hP, hD⟩, hS.F ht⟩) hS.2.2 dX2_init_22
theorem dX4_init_0 : decode cX4_init 0 = .ok (.aload_n 0, 1) := by decide +kernel
theorem dX4_init_1 : decode cX4_init 1 = .ok (.invokespecial 3, 3) := by decide +kernel
theorem dX4_init_4 : decode cX4_init 4 = .ok (.aload_n 0, 1) := by decide +kernel
theorem dX4_init_5 : decode cX4_init 5 = .ok (.bipush 60, 2) := by decide +kernel
theorem dX4_init_7 : decode cX4_init 7 = .ok (.newarray .long, 2) := by decide +kernel
theorem dX4_init_9 : decode cX4_init 9 = .ok (.putfield 9, 3) := by decide +kernel
theorem dX4_init_12 : decode cX4_init 12 = .ok (.aload_n 0, 1) := by decide +kernel
theorem dX4_init_13 : decode cX4_init 13 = .ok (.iconst (-1), 1) := by decide +kernel
theorem dX4_init_14 : decode cX4_init 14 = .ok (.putfield 15, 3) := by decide +kernel
theorem dX4_init_17 : decode cX4_init 17 = .ok (.return_, 1) := by decide +kernel
abbrev cw_X4 (cs : Nat → ClassId) (h0 : Nat) (q0 : Nat) : va_W := (h0, .inr (4, [.ref q0, .int (-1), .int 0])) :: ([] ++ [(q0, cnL cs 60)])
set_option maxHeartbeats 4000000 in
set_option maxRecDepth 100000 in
theorem cn_X4 (l : Launch) (D : va_G) (cs : Nat → ClassId) (h0 sz : Nat) : cnMet l D cs yX4_init cX4_init 1 { frames := 1, cells := 1, slots := 60, locals := 40 } [] (.inr (4, [.null, .int 0, .int 0])) (fun h w => ∃ q0 : Nat, w = cw_X4 cs h q0) h0 sz 1 60 := by
  refine Met.ofW (cc := cX4_init) (maxL := 1) (ret := none) (by decide) rfl ?_
  intro p e s m args below meth c s₁ B hml hv
  obtain ⟨rfl, hsz, hP, hK, hD0, hO⟩ := hv
  have hx := B.exec
  have hb := B.bytes
  have hr := B.returns
  have hts0 := atoms_spec (ws := cnwd yX4_init cX4_init 1) B.pre
  have hts : ∀ w ∈ TBL, w.before _ s = true := fun w hw => hts0 w (List.mem_cons_of_mem _ hw)
  have hown : s.vm.findClass RX4 = some m.cls := findClass_of_methodNamed B.named
  have hlocks := B.notSynchronized
  have hin : meth.name = "<init>" := (name_of_methodNamed B.named B.method).1
  subst hsz
  have hD := hD0.self (sz := s.heap.size)
  generalize hAe : va_A [(h0, .inr (4, [.null, .int 0, .int 0]))] s.heap.size = A at hD ⊢
  have hA : ∀ q : Nat, s.heap.size ≤ q → A q := fun q h => by rw [← hAe]; exact Or.inr h
  have hS : va_S A s.heap s.heap [] := va_S.rf
  have hl := lv_entry ([.ref h0]) (n := 1) (Nat.le_of_ble_eq_true rfl)
  rw [lg_entry_eq]
  generalize (lg_sl ([.ref h0]) ++ List.replicate (1 - (lg_sl ([.ref h0])).length) Slot.unset).toArray = ls at hl ⊢
  have hl : lv_has ls 1 [(0, .ref h0)] := hl
  refine lv_aload_n hx hb dX4_init_0 rfl (lv_at hl 0 rfl) ?_
  refine W.objInit hx hb hown (hts _ (cnW _ (List.mem_of_getElem? (i := 7) rfl))) (hts _ (cnW _ (List.mem_of_getElem? (i := 1) rfl))) (hts _ (cnW _ (List.mem_of_getElem? (i := 2) rfl))) rfl (by rw [hml]; exact hl.1) rfl dX4_init_1 (Nat.le_of_ble_eq_true rfl) (Nat.le_of_ble_eq_true rfl) ?_
  refine W.eq (g2 := F0 m 4 ls []) rfl ?_
  refine lv_aload_n hx hb dX4_init_4 rfl (lv_at hl 0 rfl) ?_
  refine lv_bipush (v := 60) hx hb dX4_init_5 (by decide) ?_
  refine cn_newl (N' := 60) (cs := cs) hx hb (hts _ (cnW _ (List.mem_of_getElem? (i := 8) rfl))) hK hP hD hS hA (by decide) rfl (Nat.le_of_ble_eq_true rfl) (Nat.le_of_ble_eq_true rfl) (Nat.le_of_ble_eq_true rfl) dX4_init_7 (fun q0 H hP hD hS => ?_)
  have hP : va_P D vwCl ((h0, .inr (4, [.null, .int 0, .int 0])) :: ([] ++ [(q0, cnL cs 60)])) H := hP
  have hD : va_D A ((h0, .inr (4, [.null, .int 0, .int 0])) :: ([] ++ [(q0, cnL cs 60)])) := hD
  refine W.widen (k := 1) (n := 60) (Nat.le_of_ble_eq_true rfl) (Nat.le_of_ble_eq_true rfl) ?_
  refine va_putF (D := D) (ci := 4) (v := .ref q0) (ty := .array .long) (C := RX4) (T := TX4) (N := 3) hx hb hts qcw_4 tyX4 tyX4_ok nmX4 hown hK hP hD hS 0 rfl rfl 0 (by decide) (hts _ (cnW _ (List.mem_of_getElem? (i := 9) rfl))) (fun _ h9 => h9) rfl hin rfl (by decide +kernel) rfl rfl (Nat.le_of_ble_eq_true rfl) dX4_init_9 (fun H locs hP hD hS => ?_)
  have hP : va_P D vwCl ((h0, .inr (4, [.ref q0, .int 0, .int 0])) :: ([] ++ [(q0, cnL cs 60)])) H := hP
  have hD : va_D A ((h0, .inr (4, [.ref q0, .int 0, .int 0])) :: ([] ++ [(q0, cnL cs 60)])) := hD
  refine lv_aload_n hx hb dX4_init_12 rfl (lv_at hl 0 rfl) ?_
  refine lv_iconst (v := -1) hx hb dX4_init_13 (by decide) ?_
  refine va_put (D := D) (ci := 4) (v := .int (-1)) (ty := .int) (C := RX4) (T := TX4) (N := 3) hx hb hts qcw_4 tyX4 tyX4_ok nmX4 hown hK hP hD hS 0 rfl rfl 1 (by decide) (hts _ (cnW _ (List.mem_of_getElem? (i := 10) rfl))) (fun _ h9 => h9) rfl (by decide +kernel) rfl rfl (Nat.le_of_ble_eq_true rfl) dX4_init_14 (fun H locs hP hD hS => ?_)
  have hP : va_P D vwCl ((h0, .inr (4, [.ref q0, .int (-1), .int 0])) :: ([] ++ [(q0, cnL cs 60)])) H := hP
  have hD : va_D A ((h0, .inr (4, [.ref q0, .int (-1), .int 0])) :: ([] ++ [(q0, cnL cs 60)])) := hD
  exact W.vret hx hb hr (fun t ht hW => ⟨⟨(), rfl, trivial, cw_X4 cs h0 q0, ⟨q0, rfl⟩, by rw [ht]; exact hP, hD⟩, hS.F ht⟩) hS.2.2 dX4_init_17
theorem dX5_init_0 : decode cX5_init 0 = .ok (.aload_n 0, 1) := by decide +kernel
theorem dX5_init_1 : decode cX5_init 1 = .ok (.invokespecial 3, 3) := by decide +kernel
theorem dX5_init_4 : decode cX5_init 4 = .ok (.aload_n 0, 1) := by decide +kernel
theorem dX5_init_5 : decode cX5_init 5 = .ok (.bipush 100, 2) := by decide +kernel
theorem dX5_init_7 : decode cX5_init 7 = .ok (.newarray .byte, 2) := by decide +kernel
theorem dX5_init_9 : decode cX5_init 9 = .ok (.putfield 9, 3) := by decide +kernel
theorem dX5_init_12 : decode cX5_init 12 = .ok (.return_, 1) := by decide +kernel
abbrev cw_X5 (cs : Nat → ClassId) (h0 : Nat) (q0 : Nat) : va_W := (h0, .inr (5, [.ref q0, .int 0])) :: ([] ++ [(q0, cnB cs 100)])
set_option maxHeartbeats 4000000 in
set_option maxRecDepth 100000 in
theorem cn_X5 (l : Launch) (D : va_G) (cs : Nat → ClassId) (h0 sz : Nat) : cnMet l D cs yX5_init cX5_init 1 { frames := 1, cells := 1, slots := 100, locals := 40 } [] (.inr (5, [.null, .int 0])) (fun h w => ∃ q0 : Nat, w = cw_X5 cs h q0) h0 sz 1 100 := by
  refine Met.ofW (cc := cX5_init) (maxL := 1) (ret := none) (by decide) rfl ?_
  intro p e s m args below meth c s₁ B hml hv
  obtain ⟨rfl, hsz, hP, hK, hD0, hO⟩ := hv
  have hx := B.exec
  have hb := B.bytes
  have hr := B.returns
  have hts0 := atoms_spec (ws := cnwd yX5_init cX5_init 1) B.pre
  have hts : ∀ w ∈ TBL, w.before _ s = true := fun w hw => hts0 w (List.mem_cons_of_mem _ hw)
  have hown : s.vm.findClass RX5 = some m.cls := findClass_of_methodNamed B.named
  have hlocks := B.notSynchronized
  have hin : meth.name = "<init>" := (name_of_methodNamed B.named B.method).1
  subst hsz
  have hD := hD0.self (sz := s.heap.size)
  generalize hAe : va_A [(h0, .inr (5, [.null, .int 0]))] s.heap.size = A at hD ⊢
  have hA : ∀ q : Nat, s.heap.size ≤ q → A q := fun q h => by rw [← hAe]; exact Or.inr h
  have hS : va_S A s.heap s.heap [] := va_S.rf
  have hl := lv_entry ([.ref h0]) (n := 1) (Nat.le_of_ble_eq_true rfl)
  rw [lg_entry_eq]
  generalize (lg_sl ([.ref h0]) ++ List.replicate (1 - (lg_sl ([.ref h0])).length) Slot.unset).toArray = ls at hl ⊢
  have hl : lv_has ls 1 [(0, .ref h0)] := hl
  refine lv_aload_n hx hb dX5_init_0 rfl (lv_at hl 0 rfl) ?_
  refine W.objInit hx hb hown (hts _ (cnW _ (List.mem_of_getElem? (i := 11) rfl))) (hts _ (cnW _ (List.mem_of_getElem? (i := 1) rfl))) (hts _ (cnW _ (List.mem_of_getElem? (i := 2) rfl))) rfl (by rw [hml]; exact hl.1) rfl dX5_init_1 (Nat.le_of_ble_eq_true rfl) (Nat.le_of_ble_eq_true rfl) ?_
  refine W.eq (g2 := F0 m 4 ls []) rfl ?_
  refine lv_aload_n hx hb dX5_init_4 rfl (lv_at hl 0 rfl) ?_
  refine lv_bipush (v := 100) hx hb dX5_init_5 (by decide) ?_
  refine cn_newb (N' := 100) (cs := cs) hx hb (hts _ (cnW _ (List.mem_of_getElem? (i := 12) rfl))) hK hP hD hS hA (by decide) rfl (Nat.le_of_ble_eq_true rfl) (Nat.le_of_ble_eq_true rfl) (Nat.le_of_ble_eq_true rfl) dX5_init_7 (fun q0 H hP hD hS => ?_)
  have hP : va_P D vwCl ((h0, .inr (5, [.null, .int 0])) :: ([] ++ [(q0, cnB cs 100)])) H := hP
  have hD : va_D A ((h0, .inr (5, [.null, .int 0])) :: ([] ++ [(q0, cnB cs 100)])) := hD
  refine W.widen (k := 1) (n := 100) (Nat.le_of_ble_eq_true rfl) (Nat.le_of_ble_eq_true rfl) ?_
  refine va_putF (D := D) (ci := 5) (v := .ref q0) (ty := .array .byte) (C := RX5) (T := TX5) (N := 2) hx hb hts qcw_5 tyX5 tyX5_ok nmX5 hown hK hP hD hS 0 rfl rfl 0 (by decide) (hts _ (cnW _ (List.mem_of_getElem? (i := 13) rfl))) (fun _ h9 => h9) rfl hin rfl (by decide +kernel) rfl rfl (Nat.le_of_ble_eq_true rfl) dX5_init_9 (fun H locs hP hD hS => ?_)
  have hP : va_P D vwCl ((h0, .inr (5, [.ref q0, .int 0])) :: ([] ++ [(q0, cnB cs 100)])) H := hP
  have hD : va_D A ((h0, .inr (5, [.ref q0, .int 0])) :: ([] ++ [(q0, cnB cs 100)])) := hD
  exact W.vret hx hb hr (fun t ht hW => ⟨⟨(), rfl, trivial, cw_X5 cs h0 q0, ⟨q0, rfl⟩, by rw [ht]; exact hP, hD⟩, hS.F ht⟩) hS.2.2 dX5_init_12
theorem dX1_init_0 : decode cX1_init 0 = .ok (.aload_n 0, 1) := by decide +kernel
theorem dX1_init_1 : decode cX1_init 1 = .ok (.invokespecial 3, 3) := by decide +kernel
theorem dX1_init_4 : decode cX1_init 4 = .ok (.aload_n 0, 1) := by decide +kernel
theorem dX1_init_5 : decode cX1_init 5 = .ok (.iconst 2, 1) := by decide +kernel
theorem dX1_init_6 : decode cX1_init 6 = .ok (.iload_n 1, 1) := by decide +kernel
theorem dX1_init_7 : decode cX1_init 7 = .ok (.iconst 0, 1) := by decide +kernel
theorem dX1_init_8 : decode cX1_init 8 = .ok (.invokestatic 9, 3) := by decide +kernel
theorem dX1_init_11 : decode cX1_init 11 = .ok (.imul, 1) := by decide +kernel
theorem dX1_init_12 : decode cX1_init 12 = .ok (.newarray .int, 2) := by decide +kernel
theorem dX1_init_14 : decode cX1_init 14 = .ok (.putfield 15, 3) := by decide +kernel
theorem dX1_init_17 : decode cX1_init 17 = .ok (.return_, 1) := by decide +kernel
abbrev cw_X1_5 (cs : Nat → ClassId) (h0 : Nat) (q0 : Nat) : va_W := (h0, .inr (1, [.ref q0, .int 0])) :: ([] ++ [(q0, cnI cs 10)])
set_option maxHeartbeats 4000000 in
set_option maxRecDepth 100000 in
theorem cn_X1_5 (l : Launch) (D : va_G) (cs : Nat → ClassId) (h0 sz : Nat) : cnMet l D cs yX1_init cX1_init 2 { frames := 1, cells := 1, slots := 10, locals := 40 } [.int 5] (.inr (1, [.null, .int 0])) (fun h w => ∃ q0 : Nat, w = cw_X1_5 cs h q0) h0 sz 1 10 := by
  refine Met.ofW (cc := cX1_init) (maxL := 2) (ret := none) (by decide) rfl ?_
  intro p e s m args below meth c s₁ B hml hv
  obtain ⟨rfl, hsz, hP, hK, hD0, hO⟩ := hv
  have hx := B.exec
  have hb := B.bytes
  have hr := B.returns
  have hts0 := atoms_spec (ws := cnwd yX1_init cX1_init 2) B.pre
  have hts : ∀ w ∈ TBL, w.before _ s = true := fun w hw => hts0 w (List.mem_cons_of_mem _ hw)
  have hown : s.vm.findClass RX1 = some m.cls := findClass_of_methodNamed B.named
  have hlocks := B.notSynchronized
  have hin : meth.name = "<init>" := (name_of_methodNamed B.named B.method).1
  subst hsz
  have hD := hD0.self (sz := s.heap.size)
  generalize hAe : va_A [(h0, .inr (1, [.null, .int 0]))] s.heap.size = A at hD ⊢
  have hA : ∀ q : Nat, s.heap.size ≤ q → A q := fun q h => by rw [← hAe]; exact Or.inr h
  have hS : va_S A s.heap s.heap [] := va_S.rf
  have hl := lv_entry ([.ref h0, .int 5]) (n := 2) (Nat.le_of_ble_eq_true rfl)
  rw [lg_entry_eq]
  generalize (lg_sl ([.ref h0, .int 5]) ++ List.replicate (2 - (lg_sl ([.ref h0, .int 5])).length) Slot.unset).toArray = ls at hl ⊢
  have hl : lv_has ls 2 [(0, .ref h0), (1, .int 5)] := hl
  refine lv_aload_n hx hb dX1_init_0 rfl (lv_at hl 0 rfl) ?_
  refine W.objInit hx hb hown (hts _ (cnW _ (List.mem_of_getElem? (i := 14) rfl))) (hts _ (cnW _ (List.mem_of_getElem? (i := 1) rfl))) (hts _ (cnW _ (List.mem_of_getElem? (i := 2) rfl))) rfl (by rw [hml]; exact hl.1) rfl dX1_init_1 (Nat.le_of_ble_eq_true rfl) (Nat.le_of_ble_eq_true rfl) ?_
  refine W.eq (g2 := F0 m 4 ls []) rfl ?_
  refine lv_aload_n hx hb dX1_init_4 rfl (lv_at hl 0 rfl) ?_
  refine lv_iconst (v := 2) hx hb dX1_init_5 (by decide) ?_
  refine lv_iload_n hx hb dX1_init_6 rfl (lv_at hl 1 rfl) ?_
  refine lv_iconst (v := 0) hx hb dX1_init_7 (by decide) ?_
  refine va_mmax hx hb (by rw [hml]; exact hl.1.symm) hown (hts _ (cnW _ (List.mem_of_getElem? (i := 15) rfl))) (hts _ (cnW _ (List.mem_of_getElem? (i := 16) rfl))) (hts _ (cnW _ (List.mem_of_getElem? (i := 17) rfl))) (hts _ (cnW _ (List.mem_of_getElem? (i := 18) rfl))) (Nat.le_of_ble_eq_true rfl) (Nat.le_of_ble_eq_true rfl) (Nat.le_of_ble_eq_true rfl) (Nat.le_of_ble_eq_true rfl) dX1_init_8 ?_
  refine lv_imul hx hb dX1_init_11 ?_
  refine W.eq (g2 := F0 m 12 ls [.int 10, .ref h0]) (by congr 3) ?_
  refine cn_newi (N' := 10) (cs := cs) hx hb (hts _ (cnW _ (List.mem_of_getElem? (i := 5) rfl))) hK hP hD hS hA (by decide) rfl (Nat.le_of_ble_eq_true rfl) (Nat.le_of_ble_eq_true rfl) (Nat.le_of_ble_eq_true rfl) dX1_init_12 (fun q0 H hP hD hS => ?_)
  have hP : va_P D vwCl ((h0, .inr (1, [.null, .int 0])) :: ([] ++ [(q0, cnI cs 10)])) H := hP
  have hD : va_D A ((h0, .inr (1, [.null, .int 0])) :: ([] ++ [(q0, cnI cs 10)])) := hD
  refine W.widen (k := 1) (n := 10) (Nat.le_of_ble_eq_true rfl) (Nat.le_of_ble_eq_true rfl) ?_
  refine va_putF (D := D) (ci := 1) (v := .ref q0) (ty := .array .int) (C := RX1) (T := TX1) (N := 2) hx hb hts qcw_1 tyX1 tyX1_ok nmX1 hown hK hP hD hS 0 rfl rfl 0 (by decide) (hts _ (cnW _ (List.mem_of_getElem? (i := 19) rfl))) (fun _ h9 => h9) rfl hin rfl (by decide +kernel) rfl rfl (Nat.le_of_ble_eq_true rfl) dX1_init_14 (fun H locs hP hD hS => ?_)
  have hP : va_P D vwCl ((h0, .inr (1, [.ref q0, .int 0])) :: ([] ++ [(q0, cnI cs 10)])) H := hP
  have hD : va_D A ((h0, .inr (1, [.ref q0, .int 0])) :: ([] ++ [(q0, cnI cs 10)])) := hD
  exact W.vret hx hb hr (fun t ht hW => ⟨⟨(), rfl, trivial, cw_X1_5 cs h0 q0, ⟨q0, rfl⟩, by rw [ht]; exact hP, hD⟩, hS.F ht⟩) hS.2.2 dX1_init_17
abbrev cw_X1_8 (cs : Nat → ClassId) (h0 : Nat) (q0 : Nat) : va_W := (h0, .inr (1, [.ref q0, .int 0])) :: ([] ++ [(q0, cnI cs 16)])
set_option maxHeartbeats 4000000 in
set_option maxRecDepth 100000 in
theorem cn_X1_8 (l : Launch) (D : va_G) (cs : Nat → ClassId) (h0 sz : Nat) : cnMet l D cs yX1_init cX1_init 2 { frames := 1, cells := 1, slots := 16, locals := 40 } [.int 8] (.inr (1, [.null, .int 0])) (fun h w => ∃ q0 : Nat, w = cw_X1_8 cs h q0) h0 sz 1 16 := by
  refine Met.ofW (cc := cX1_init) (maxL := 2) (ret := none) (by decide) rfl ?_
  intro p e s m args below meth c s₁ B hml hv
  obtain ⟨rfl, hsz, hP, hK, hD0, hO⟩ := hv
  have hx := B.exec
  have hb := B.bytes
  have hr := B.returns
  have hts0 := atoms_spec (ws := cnwd yX1_init cX1_init 2) B.pre
  have hts : ∀ w ∈ TBL, w.before _ s = true := fun w hw => hts0 w (List.mem_cons_of_mem _ hw)
  have hown : s.vm.findClass RX1 = some m.cls := findClass_of_methodNamed B.named
  have hlocks := B.notSynchronized
  have hin : meth.name = "<init>" := (name_of_methodNamed B.named B.method).1
  subst hsz
  have hD := hD0.self (sz := s.heap.size)
  generalize hAe : va_A [(h0, .inr (1, [.null, .int 0]))] s.heap.size = A at hD ⊢
  have hA : ∀ q : Nat, s.heap.size ≤ q → A q := fun q h => by rw [← hAe]; exact Or.inr h
  have hS : va_S A s.heap s.heap [] := va_S.rf
  have hl := lv_entry ([.ref h0, .int 8]) (n := 2) (Nat.le_of_ble_eq_true rfl)
  rw [lg_entry_eq]
  generalize (lg_sl ([.ref h0, .int 8]) ++ List.replicate (2 - (lg_sl ([.ref h0, .int 8])).length) Slot.unset).toArray = ls at hl ⊢
  have hl : lv_has ls 2 [(0, .ref h0), (1, .int 8)] := hl
  refine lv_aload_n hx hb dX1_init_0 rfl (lv_at hl 0 rfl) ?_
  refine W.objInit hx hb hown (hts _ (cnW _ (List.mem_of_getElem? (i := 14) rfl))) (hts _ (cnW _ (List.mem_of_getElem? (i := 1) rfl))) (hts _ (cnW _ (List.mem_of_getElem? (i := 2) rfl))) rfl (by rw [hml]; exact hl.1) rfl dX1_init_1 (Nat.le_of_ble_eq_true rfl) (Nat.le_of_ble_eq_true rfl) ?_
  refine W.eq (g2 := F0 m 4 ls []) rfl ?_
  refine lv_aload_n hx hb dX1_init_4 rfl (lv_at hl 0 rfl) ?_
  refine lv_iconst (v := 2) hx hb dX1_init_5 (by decide) ?_
  refine lv_iload_n hx hb dX1_init_6 rfl (lv_at hl 1 rfl) ?_
  refine lv_iconst (v := 0) hx hb dX1_init_7 (by decide) ?_
  refine va_mmax hx hb (by rw [hml]; exact hl.1.symm) hown (hts _ (cnW _ (List.mem_of_getElem? (i := 15) rfl))) (hts _ (cnW _ (List.mem_of_getElem? (i := 16) rfl))) (hts _ (cnW _ (List.mem_of_getElem? (i := 17) rfl))) (hts _ (cnW _ (List.mem_of_getElem? (i := 18) rfl))) (Nat.le_of_ble_eq_true rfl) (Nat.le_of_ble_eq_true rfl) (Nat.le_of_ble_eq_true rfl) (Nat.le_of_ble_eq_true rfl) dX1_init_8 ?_
  refine lv_imul hx hb dX1_init_11 ?_
  refine W.eq (g2 := F0 m 12 ls [.int 16, .ref h0]) (by congr 3) ?_
  refine cn_newi (N' := 16) (cs := cs) hx hb (hts _ (cnW _ (List.mem_of_getElem? (i := 5) rfl))) hK hP hD hS hA (by decide) rfl (Nat.le_of_ble_eq_true rfl) (Nat.le_of_ble_eq_true rfl) (Nat.le_of_ble_eq_true rfl) dX1_init_12 (fun q0 H hP hD hS => ?_)
  have hP : va_P D vwCl ((h0, .inr (1, [.null, .int 0])) :: ([] ++ [(q0, cnI cs 16)])) H := hP
  have hD : va_D A ((h0, .inr (1, [.null, .int 0])) :: ([] ++ [(q0, cnI cs 16)])) := hD
  refine W.widen (k := 1) (n := 16) (Nat.le_of_ble_eq_true rfl) (Nat.le_of_ble_eq_true rfl) ?_
  refine va_putF (D := D) (ci := 1) (v := .ref q0) (ty := .array .int) (C := RX1) (T := TX1) (N := 2) hx hb hts qcw_1 tyX1 tyX1_ok nmX1 hown hK hP hD hS 0 rfl rfl 0 (by decide) (hts _ (cnW _ (List.mem_of_getElem? (i := 19) rfl))) (fun _ h9 => h9) rfl hin rfl (by decide +kernel) rfl rfl (Nat.le_of_ble_eq_true rfl) dX1_init_14 (fun H locs hP hD hS => ?_)
  have hP : va_P D vwCl ((h0, .inr (1, [.ref q0, .int 0])) :: ([] ++ [(q0, cnI cs 16)])) H := hP
  have hD : va_D A ((h0, .inr (1, [.ref q0, .int 0])) :: ([] ++ [(q0, cnI cs 16)])) := hD
  exact W.vret hx hb hr (fun t ht hW => ⟨⟨(), rfl, trivial, cw_X1_8 cs h0 q0, ⟨q0, rfl⟩, by rw [ht]; exact hP, hD⟩, hS.F ht⟩) hS.2.2 dX1_init_17
theorem dX6_init_0 : decode cX6_init 0 = .ok (.aload_n 0, 1) := by decide +kernel
theorem dX6_init_1 : decode cX6_init 1 = .ok (.invokespecial 3, 3) := by decide +kernel
theorem dX6_init_4 : decode cX6_init 4 = .ok (.aload_n 0, 1) := by decide +kernel
theorem dX6_init_5 : decode cX6_init 5 = .ok (.sipush 784, 3) := by decide +kernel
theorem dX6_init_8 : decode cX6_init 8 = .ok (.newarray .int, 2) := by decide +kernel
theorem dX6_init_10 : decode cX6_init 10 = .ok (.putfield 11, 3) := by decide +kernel
theorem dX6_init_13 : decode cX6_init 13 = .ok (.aload_n 0, 1) := by decide +kernel
theorem dX6_init_14 : decode cX6_init 14 = .ok (.aload_n 1, 1) := by decide +kernel
theorem dX6_init_15 : decode cX6_init 15 = .ok (.putfield 15, 3) := by decide +kernel
theorem dX6_init_18 : decode cX6_init 18 = .ok (.return_, 1) := by decide +kernel
abbrev cw_X6 (cs : Nat → ClassId) (h0 : Nat) (su : Nat) (q0 : Nat) : va_W := (h0, .inr (6, [.ref su, .ref q0])) :: ([] ++ [(q0, cnI cs 784)])
set_option maxHeartbeats 4000000 in
set_option maxRecDepth 100000 in
theorem cn_X6 (l : Launch) (D : va_G) (cs : Nat → ClassId) (h0 sz : Nat) (su : Nat) : cnMet l D cs yX6_init cX6_init 2 { frames := 1, cells := 1, slots := 784, locals := 40 } [.ref su] (.inr (6, [.null, .null])) (fun h w => ∃ q0 : Nat, w = cw_X6 cs h su q0) h0 sz 1 784 := by
  refine Met.ofW (cc := cX6_init) (maxL := 2) (ret := none) (by decide) rfl ?_
  intro p e s m args below meth c s₁ B hml hv
  obtain ⟨rfl, hsz, hP, hK, hD0, hO⟩ := hv
  have hx := B.exec
  have hb := B.bytes
  have hr := B.returns
  have hts0 := atoms_spec (ws := cnwd yX6_init cX6_init 2) B.pre
  have hts : ∀ w ∈ TBL, w.before _ s = true := fun w hw => hts0 w (List.mem_cons_of_mem _ hw)
  have hown : s.vm.findClass RX6 = some m.cls := findClass_of_methodNamed B.named
  have hlocks := B.notSynchronized
  have hin : meth.name = "<init>" := (name_of_methodNamed B.named B.method).1
  subst hsz
  have hD := hD0.self (sz := s.heap.size)
  generalize hAe : va_A [(h0, .inr (6, [.null, .null]))] s.heap.size = A at hD ⊢
  have hA : ∀ q : Nat, s.heap.size ≤ q → A q := fun q h => by rw [← hAe]; exact Or.inr h
  have hS : va_S A s.heap s.heap [] := va_S.rf
  have hl := lv_entry ([.ref h0, .ref su]) (n := 2) (Nat.le_of_ble_eq_true rfl)
  rw [lg_entry_eq]
  generalize (lg_sl ([.ref h0, .ref su]) ++ List.replicate (2 - (lg_sl ([.ref h0, .ref su])).length) Slot.unset).toArray = ls at hl ⊢
  have hl : lv_has ls 2 [(0, .ref h0), (1, .ref su)] := hl
  refine lv_aload_n hx hb dX6_init_0 rfl (lv_at hl 0 rfl) ?_
  refine W.objInit hx hb hown (hts _ (cnW _ (List.mem_of_getElem? (i := 20) rfl))) (hts _ (cnW _ (List.mem_of_getElem? (i := 1) rfl))) (hts _ (cnW _ (List.mem_of_getElem? (i := 2) rfl))) rfl (by rw [hml]; exact hl.1) rfl dX6_init_1 (Nat.le_of_ble_eq_true rfl) (Nat.le_of_ble_eq_true rfl) ?_
  refine W.eq (g2 := F0 m 4 ls []) rfl ?_
  refine lv_aload_n hx hb dX6_init_4 rfl (lv_at hl 0 rfl) ?_
  refine lv_sipush (v := 784) hx hb dX6_init_5 (by decide) ?_
  refine cn_newi (N' := 784) (cs := cs) hx hb (hts _ (cnW _ (List.mem_of_getElem? (i := 5) rfl))) hK hP hD hS hA (by decide) rfl (Nat.le_of_ble_eq_true rfl) (Nat.le_of_ble_eq_true rfl) (Nat.le_of_ble_eq_true rfl) dX6_init_8 (fun q0 H hP hD hS => ?_)
  have hP : va_P D vwCl ((h0, .inr (6, [.null, .null])) :: ([] ++ [(q0, cnI cs 784)])) H := hP
  have hD : va_D A ((h0, .inr (6, [.null, .null])) :: ([] ++ [(q0, cnI cs 784)])) := hD
  refine W.widen (k := 1) (n := 784) (Nat.le_of_ble_eq_true rfl) (Nat.le_of_ble_eq_true rfl) ?_
  refine va_putF (D := D) (ci := 6) (v := .ref q0) (ty := .array .int) (C := RX6) (T := TX6) (N := 2) hx hb hts qcw_6 tyX6 tyX6_ok nmX6 hown hK hP hD hS 0 rfl rfl 1 (by decide) (hts _ (cnW _ (List.mem_of_getElem? (i := 21) rfl))) (fun _ h9 => h9) rfl hin rfl (by decide +kernel) rfl rfl (Nat.le_of_ble_eq_true rfl) dX6_init_10 (fun H locs hP hD hS => ?_)
  have hP : va_P D vwCl ((h0, .inr (6, [.null, .ref q0])) :: ([] ++ [(q0, cnI cs 784)])) H := hP
  have hD : va_D A ((h0, .inr (6, [.null, .ref q0])) :: ([] ++ [(q0, cnI cs 784)])) := hD
  refine lv_aload_n hx hb dX6_init_13 rfl (lv_at hl 0 rfl) ?_
  refine lv_aload_n hx hb dX6_init_14 rfl (lv_at hl 1 rfl) ?_
  refine va_putF (D := D) (ci := 6) (v := .ref su) (ty := .object "PlateCuts$Setup") (C := RX6) (T := TX6) (N := 2) hx hb hts qcw_6 tyX6 tyX6_ok nmX6 hown hK hP hD hS 0 rfl rfl 0 (by decide) (hts _ (cnW _ (List.mem_of_getElem? (i := 22) rfl))) (fun _ h9 => h9) rfl hin rfl (by decide +kernel) rfl rfl (Nat.le_of_ble_eq_true rfl) dX6_init_15 (fun H locs hP hD hS => ?_)
  have hP : va_P D vwCl ((h0, .inr (6, [.ref su, .ref q0])) :: ([] ++ [(q0, cnI cs 784)])) H := hP
  have hD : va_D A ((h0, .inr (6, [.ref su, .ref q0])) :: ([] ++ [(q0, cnI cs 784)])) := hD
  exact W.vret hx hb hr (fun t ht hW => ⟨⟨(), rfl, trivial, cw_X6 cs h0 su q0, ⟨q0, rfl⟩, by rw [ht]; exact hP, hD⟩, hS.F ht⟩) hS.2.2 dX6_init_18
