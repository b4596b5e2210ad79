/-! ===== constructors ===== -/
theorem dX8_init_0 : decode cX8_init 0 = .ok (.aload_n 0, 1) := by decide +kernel
theorem dX8_init_1 : decode cX8_init 1 = .ok (.invokespecial 5, 3) := by decide +kernel
theorem dX8_init_4 : decode cX8_init 4 = .ok (.aload_n 0, 1) := by decide +kernel
theorem dX8_init_5 : decode cX8_init 5 = .ok (.bipush 118, 2) := by decide +kernel
theorem dX8_init_7 : decode cX8_init 7 = .ok (.newarray .int, 2) := by decide +kernel
theorem dX8_init_9 : decode cX8_init 9 = .ok (.putfield 11, 3) := by decide +kernel
theorem dX8_init_12 : decode cX8_init 12 = .ok (.aload_n 0, 1) := by decide +kernel
theorem dX8_init_13 : decode cX8_init 13 = .ok (.bipush 118, 2) := by decide +kernel
theorem dX8_init_15 : decode cX8_init 15 = .ok (.newarray .int, 2) := by decide +kernel
theorem dX8_init_17 : decode cX8_init 17 = .ok (.putfield 15, 3) := by decide +kernel
theorem dX8_init_20 : decode cX8_init 20 = .ok (.aload_n 0, 1) := by decide +kernel
theorem dX8_init_21 : decode cX8_init 21 = .ok (.bipush 118, 2) := by decide +kernel
theorem dX8_init_23 : decode cX8_init 23 = .ok (.newarray .int, 2) := by decide +kernel
theorem dX8_init_25 : decode cX8_init 25 = .ok (.putfield 18, 3) := by decide +kernel
theorem dX8_init_28 : decode cX8_init 28 = .ok (.aload_n 0, 1) := by decide +kernel
theorem dX8_init_29 : decode cX8_init 29 = .ok (.bipush 100, 2) := by decide +kernel
theorem dX8_init_31 : decode cX8_init 31 = .ok (.newarray .int, 2) := by decide +kernel
theorem dX8_init_33 : decode cX8_init 33 = .ok (.putfield 21, 3) := by decide +kernel
theorem dX8_init_36 : decode cX8_init 36 = .ok (.aload_n 0, 1) := by decide +kernel
theorem dX8_init_37 : decode cX8_init 37 = .ok (.bipush 12, 2) := by decide +kernel
theorem dX8_init_39 : decode cX8_init 39 = .ok (.newarray .int, 2) := by decide +kernel
theorem dX8_init_41 : decode cX8_init 41 = .ok (.putfield 24, 3) := by decide +kernel
theorem dX8_init_44 : decode cX8_init 44 = .ok (.aload_n 0, 1) := by decide +kernel
theorem dX8_init_45 : decode cX8_init 45 = .ok (.sipush 4096, 3) := by decide +kernel
theorem dX8_init_48 : decode cX8_init 48 = .ok (.newarray .int, 2) := by decide +kernel
theorem dX8_init_50 : decode cX8_init 50 = .ok (.putfield 27, 3) := by decide +kernel
theorem dX8_init_53 : decode cX8_init 53 = .ok (.aload_n 0, 1) := by decide +kernel
theorem dX8_init_54 : decode cX8_init 54 = .ok (.sipush 1024, 3) := by decide +kernel
theorem dX8_init_57 : decode cX8_init 57 = .ok (.newarray .int, 2) := by decide +kernel
theorem dX8_init_59 : decode cX8_init 59 = .ok (.putfield 30, 3) := by decide +kernel
theorem dX8_init_62 : decode cX8_init 62 = .ok (.aload_n 0, 1) := by decide +kernel
theorem dX8_init_63 : decode cX8_init 63 = .ok (.sipush 4096, 3) := by decide +kernel
theorem dX8_init_66 : decode cX8_init 66 = .ok (.newarray .int, 2) := by decide +kernel
theorem dX8_init_68 : decode cX8_init 68 = .ok (.putfield 33, 3) := by decide +kernel
theorem dX8_init_71 : decode cX8_init 71 = .ok (.aload_n 0, 1) := by decide +kernel
theorem dX8_init_72 : decode cX8_init 72 = .ok (.bipush 6, 2) := by decide +kernel
theorem dX8_init_74 : decode cX8_init 74 = .ok (.newarray .int, 2) := by decide +kernel
theorem dX8_init_76 : decode cX8_init 76 = .ok (.dup, 1) := by decide +kernel
theorem dX8_init_77 : decode cX8_init 77 = .ok (.iconst 0, 1) := by decide +kernel
theorem dX8_init_78 : decode cX8_init 78 = .ok (.iconst (-1), 1) := by decide +kernel
theorem dX8_init_79 : decode cX8_init 79 = .ok (.iastore, 1) := by decide +kernel
theorem dX8_init_80 : decode cX8_init 80 = .ok (.dup, 1) := by decide +kernel
theorem dX8_init_81 : decode cX8_init 81 = .ok (.iconst 1, 1) := by decide +kernel
theorem dX8_init_82 : decode cX8_init 82 = .ok (.iconst (-1), 1) := by decide +kernel
theorem dX8_init_83 : decode cX8_init 83 = .ok (.iastore, 1) := by decide +kernel
theorem dX8_init_84 : decode cX8_init 84 = .ok (.dup, 1) := by decide +kernel
theorem dX8_init_85 : decode cX8_init 85 = .ok (.iconst 2, 1) := by decide +kernel
theorem dX8_init_86 : decode cX8_init 86 = .ok (.iconst (-1), 1) := by decide +kernel
theorem dX8_init_87 : decode cX8_init 87 = .ok (.iastore, 1) := by decide +kernel
theorem dX8_init_88 : decode cX8_init 88 = .ok (.dup, 1) := by decide +kernel
theorem dX8_init_89 : decode cX8_init 89 = .ok (.iconst 3, 1) := by decide +kernel
theorem dX8_init_90 : decode cX8_init 90 = .ok (.iconst (-1), 1) := by decide +kernel
theorem dX8_init_91 : decode cX8_init 91 = .ok (.iastore, 1) := by decide +kernel
theorem dX8_init_92 : decode cX8_init 92 = .ok (.dup, 1) := by decide +kernel
theorem dX8_init_93 : decode cX8_init 93 = .ok (.iconst 4, 1) := by decide +kernel
theorem dX8_init_94 : decode cX8_init 94 = .ok (.iconst (-1), 1) := by decide +kernel
theorem dX8_init_95 : decode cX8_init 95 = .ok (.iastore, 1) := by decide +kernel
theorem dX8_init_96 : decode cX8_init 96 = .ok (.dup, 1) := by decide +kernel
theorem dX8_init_97 : decode cX8_init 97 = .ok (.iconst 5, 1) := by decide +kernel
theorem dX8_init_98 : decode cX8_init 98 = .ok (.iconst (-1), 1) := by decide +kernel
theorem dX8_init_99 : decode cX8_init 99 = .ok (.iastore, 1) := by decide +kernel
theorem dX8_init_100 : decode cX8_init 100 = .ok (.putfield 36, 3) := by decide +kernel
theorem dX8_init_103 : decode cX8_init 103 = .ok (.aload_n 0, 1) := by decide +kernel
theorem dX8_init_104 : decode cX8_init 104 = .ok (.bipush 6, 2) := by decide +kernel
theorem dX8_init_106 : decode cX8_init 106 = .ok (.newarray .int, 2) := by decide +kernel
theorem dX8_init_108 : decode cX8_init 108 = .ok (.putfield 39, 3) := by decide +kernel
theorem dX8_init_111 : decode cX8_init 111 = .ok (.aload_n 0, 1) := by decide +kernel
theorem dX8_init_112 : decode cX8_init 112 = .ok (.bipush 6, 2) := by decide +kernel
theorem dX8_init_114 : decode cX8_init 114 = .ok (.bipush 60, 2) := by decide +kernel
theorem dX8_init_116 : decode cX8_init 116 = .ok (.multianewarray 42 2, 4) := by decide +kernel
theorem dX8_init_120 : decode cX8_init 120 = .ok (.putfield 44, 3) := by decide +kernel
theorem dX8_init_123 : decode cX8_init 123 = .ok (.aload_n 0, 1) := by decide +kernel
theorem dX8_init_124 : decode cX8_init 124 = .ok (.bipush 60, 2) := by decide +kernel
theorem dX8_init_126 : decode cX8_init 126 = .ok (.newarray .long, 2) := by decide +kernel
theorem dX8_init_128 : decode cX8_init 128 = .ok (.putfield 47, 3) := by decide +kernel
theorem dX8_init_131 : decode cX8_init 131 = .ok (.aload_n 0, 1) := by decide +kernel
theorem dX8_init_132 : decode cX8_init 132 = .ok (.getfield 11, 3) := by decide +kernel
theorem dX8_init_135 : decode cX8_init 135 = .ok (.iconst 0, 1) := by decide +kernel
theorem dX8_init_136 : decode cX8_init 136 = .ok (.iconst 4, 1) := by decide +kernel
theorem dX8_init_137 : decode cX8_init 137 = .ok (.iastore, 1) := by decide +kernel
theorem dX8_init_138 : decode cX8_init 138 = .ok (.aload_n 0, 1) := by decide +kernel
theorem dX8_init_139 : decode cX8_init 139 = .ok (.getfield 11, 3) := by decide +kernel
theorem dX8_init_142 : decode cX8_init 142 = .ok (.iconst 1, 1) := by decide +kernel
theorem dX8_init_143 : decode cX8_init 143 = .ok (.iconst 4, 1) := by decide +kernel
theorem dX8_init_144 : decode cX8_init 144 = .ok (.iastore, 1) := by decide +kernel
theorem dX8_init_145 : decode cX8_init 145 = .ok (.return_, 1) := by decide +kernel
set_option maxRecDepth 100000 in
abbrev cw_X8 (cs : Nat → ClassId) (h0 : Nat) (q0 : Nat) (q1 : Nat) (q2 : Nat) (q3 : Nat) (q4 : Nat) (q5 : Nat) (q6 : Nat) (q7 : Nat) (q8 : Nat) (q9 : Nat) (q10 : Nat) (q11 : Nat) : va_W := ((h0, .inr (8, [.ref q0, .ref q1, .ref q2, .int 0, .ref q3, .int 0, .ref q4, .int 0, .ref q5, .ref q6, .int 0, .ref q7, .ref q8, .ref q9, .ref q10, .ref q11])) :: (q0, .inl (cs 0, 118, .inl (upd (upd (fun _ => 0) (0 : Int32).toNatClampNeg (4)) (1 : Int32).toNatClampNeg (4)))) :: (q1, cnI cs 118) :: (q2, cnI cs 118) :: (q3, cnI cs 100) :: (q4, cnI cs 12) :: (q5, cnI cs 4096) :: (q6, cnI cs 1024) :: (q7, cnI cs 4096) :: (q8, .inl (cs 0, 6, .inl (upd (upd (upd (upd (upd (upd (fun _ => 0) (0 : Int32).toNatClampNeg (-1)) (1 : Int32).toNatClampNeg (-1)) (2 : Int32).toNatClampNeg (-1)) (3 : Int32).toNatClampNeg (-1)) (4 : Int32).toNatClampNeg (-1)) (5 : Int32).toNatClampNeg (-1)))) :: (q9, cnI cs 6) :: (q10, .inl (cs 4, 6, .inr (.inr (.inr (.inr (cnGF q10)))))) :: (q10 + 1, cnL cs 60) :: (q10 + 2, cnL cs 60) :: (q10 + 3, cnL cs 60) :: (q10 + 4, cnL cs 60) :: (q10 + 5, cnL cs 60) :: (q10 + 6, cnL cs 60) :: (q11, cnL cs 60) :: [])
set_option maxHeartbeats 4000000 in
set_option maxRecDepth 100000 in
theorem cn_X8 (l : Launch) (D : va_G) (cs : Nat → ClassId) (h0 sz : Nat) : cnMet l D cs yX8_init cX8_init 1 { frames := 1, cells := 18, slots := 10120, locals := 60 } [] (.inr (8, [.null, .null, .null, .int 0, .null, .int 0, .null, .int 0, .null, .null, .int 0, .null, .null, .null, .null, .null])) (fun h w => ∃ q0 q1 q2 q3 q4 q5 q6 q7 q8 q9 q10 q11 : Nat, w = cw_X8 cs h q0 q1 q2 q3 q4 q5 q6 q7 q8 q9 q10 q11) h0 sz 18 10120 := by
  refine Met.ofW (cc := cX8_init) (maxL := 1) (ret := none) (by decide) rfl ?_
  intro p e s m args below meth c s₁ B hml hv
  obtain ⟨rfl, hsz, hP, hK, hD0, hO⟩ := hv
  have hx := B.exec
  have hb := B.bytes
  have hr := B.returns
  have hts0 := atoms_spec (ws := cnwd yX8_init cX8_init 1) B.pre
  have hts : ∀ w ∈ TBL, w.before _ s = true := fun w hw => hts0 w (List.mem_cons_of_mem _ hw)
  have hown : s.vm.findClass RX8 = some m.cls := findClass_of_methodNamed B.named
  have hlocks := B.notSynchronized
  have hin : meth.name = "<init>" := (name_of_methodNamed B.named B.method).1
  subst hsz
  have hD := hD0.self (sz := s.heap.size)
  generalize hAe : va_A [(h0, .inr (8, [.null, .null, .null, .int 0, .null, .int 0, .null, .int 0, .null, .null, .int 0, .null, .null, .null, .null, .null]))] s.heap.size = A at hD ⊢
  have hA : ∀ q : Nat, s.heap.size ≤ q → A q := fun q h => by rw [← hAe]; exact Or.inr h
  have hS : va_S A s.heap s.heap [] := va_S.rf
  have hl := lv_entry ([.ref h0]) (n := 1) (Nat.le_of_ble_eq_true rfl)
  rw [lg_entry_eq]
  generalize (lg_sl ([.ref h0]) ++ List.replicate (1 - (lg_sl ([.ref h0])).length) Slot.unset).toArray = ls at hl ⊢
  have hl : lv_has ls 1 [(0, .ref h0)] := hl
  refine lv_aload_n hx hb dX8_init_0 rfl (lv_at hl 0 rfl) ?_
  refine W.objInit hx hb hown (hts _ (cnW _ (List.mem_of_getElem? (i := 65) rfl))) (hts _ (cnW _ (List.mem_of_getElem? (i := 1) rfl))) (hts _ (cnW _ (List.mem_of_getElem? (i := 2) rfl))) rfl (by rw [hml]; exact hl.1) rfl dX8_init_1 (Nat.le_of_ble_eq_true rfl) (Nat.le_of_ble_eq_true rfl) ?_
  refine W.eq (g2 := F0 m 4 ls []) rfl ?_
  refine lv_aload_n hx hb dX8_init_4 rfl (lv_at hl 0 rfl) ?_
  refine lv_bipush (v := 118) hx hb dX8_init_5 (by decide) ?_
  refine cn_newi (N' := 118) (cs := cs) hx hb (hts _ (cnW _ (List.mem_of_getElem? (i := 5) rfl))) hK hP hD hS hA (by decide) rfl (Nat.le_of_ble_eq_true rfl) (Nat.le_of_ble_eq_true rfl) (Nat.le_of_ble_eq_true rfl) dX8_init_7 (fun q0 H hP hD hS => ?_)
  have hP : va_P D vwCl ((h0, .inr (8, [.null, .null, .null, .int 0, .null, .int 0, .null, .int 0, .null, .null, .int 0, .null, .null, .null, .null, .null])) :: (q0, cnI cs 118) :: []) H := hP
  have hD : va_D A ((h0, .inr (8, [.null, .null, .null, .int 0, .null, .int 0, .null, .int 0, .null, .null, .int 0, .null, .null, .null, .null, .null])) :: (q0, cnI cs 118) :: []) := hD
  refine W.widen (k := 1) (n := 118) (Nat.le_of_ble_eq_true rfl) (Nat.le_of_ble_eq_true rfl) ?_
  refine va_putF (D := D) (ci := 8) (v := .ref q0) (ty := .array .int) (C := RX8) (T := TX8) (N := 16) hx hb hts qcw_8 tyX8 tyX8_ok nmX8 hown hK hP hD hS 0 rfl rfl 0 (by decide) (hts _ (cnW _ (List.mem_of_getElem? (i := 66) rfl))) (fun _ h9 => h9) rfl hin rfl (by decide +kernel) rfl rfl (Nat.le_of_ble_eq_true rfl) dX8_init_9 (fun H locs hP hD hS => ?_)
  have hP : va_P D vwCl ((h0, .inr (8, [.ref q0, .null, .null, .int 0, .null, .int 0, .null, .int 0, .null, .null, .int 0, .null, .null, .null, .null, .null])) :: (q0, cnI cs 118) :: []) H := hP
  have hD : va_D A ((h0, .inr (8, [.ref q0, .null, .null, .int 0, .null, .int 0, .null, .int 0, .null, .null, .int 0, .null, .null, .null, .null, .null])) :: (q0, cnI cs 118) :: []) := hD
  refine lv_aload_n hx hb dX8_init_12 rfl (lv_at hl 0 rfl) ?_
  refine lv_bipush (v := 118) hx hb dX8_init_13 (by decide) ?_
  refine cn_newi (N' := 118) (cs := cs) hx hb (hts _ (cnW _ (List.mem_of_getElem? (i := 5) rfl))) hK hP hD hS hA (by decide) rfl (Nat.le_of_ble_eq_true rfl) (Nat.le_of_ble_eq_true rfl) (Nat.le_of_ble_eq_true rfl) dX8_init_15 (fun q1 H hP hD hS => ?_)
  have hP : va_P D vwCl ((h0, .inr (8, [.ref q0, .null, .null, .int 0, .null, .int 0, .null, .int 0, .null, .null, .int 0, .null, .null, .null, .null, .null])) :: (q0, cnI cs 118) :: (q1, cnI cs 118) :: []) H := hP
  have hD : va_D A ((h0, .inr (8, [.ref q0, .null, .null, .int 0, .null, .int 0, .null, .int 0, .null, .null, .int 0, .null, .null, .null, .null, .null])) :: (q0, cnI cs 118) :: (q1, cnI cs 118) :: []) := hD
  refine W.widen (k := 2) (n := 236) (Nat.le_of_ble_eq_true rfl) (Nat.le_of_ble_eq_true rfl) ?_
  refine va_putF (D := D) (ci := 8) (v := .ref q1) (ty := .array .int) (C := RX8) (T := TX8) (N := 16) hx hb hts qcw_8 tyX8 tyX8_ok nmX8 hown hK hP hD hS 0 rfl rfl 1 (by decide) (hts _ (cnW _ (List.mem_of_getElem? (i := 67) rfl))) (fun _ h9 => h9) rfl hin rfl (by decide +kernel) rfl rfl (Nat.le_of_ble_eq_true rfl) dX8_init_17 (fun H locs hP hD hS => ?_)
  have hP : va_P D vwCl ((h0, .inr (8, [.ref q0, .ref q1, .null, .int 0, .null, .int 0, .null, .int 0, .null, .null, .int 0, .null, .null, .null, .null, .null])) :: (q0, cnI cs 118) :: (q1, cnI cs 118) :: []) H := hP
  have hD : va_D A ((h0, .inr (8, [.ref q0, .ref q1, .null, .int 0, .null, .int 0, .null, .int 0, .null, .null, .int 0, .null, .null, .null, .null, .null])) :: (q0, cnI cs 118) :: (q1, cnI cs 118) :: []) := hD
  refine lv_aload_n hx hb dX8_init_20 rfl (lv_at hl 0 rfl) ?_
  refine lv_bipush (v := 118) hx hb dX8_init_21 (by decide) ?_
  refine cn_newi (N' := 118) (cs := cs) hx hb (hts _ (cnW _ (List.mem_of_getElem? (i := 5) rfl))) hK hP hD hS hA (by decide) rfl (Nat.le_of_ble_eq_true rfl) (Nat.le_of_ble_eq_true rfl) (Nat.le_of_ble_eq_true rfl) dX8_init_23 (fun q2 H hP hD hS => ?_)
  have hP : va_P D vwCl ((h0, .inr (8, [.ref q0, .ref q1, .null, .int 0, .null, .int 0, .null, .int 0, .null, .null, .int 0, .null, .null, .null, .null, .null])) :: (q0, cnI cs 118) :: (q1, cnI cs 118) :: (q2, cnI cs 118) :: []) H := hP
  have hD : va_D A ((h0, .inr (8, [.ref q0, .ref q1, .null, .int 0, .null, .int 0, .null, .int 0, .null, .null, .int 0, .null, .null, .null, .null, .null])) :: (q0, cnI cs 118) :: (q1, cnI cs 118) :: (q2, cnI cs 118) :: []) := hD
  refine W.widen (k := 3) (n := 354) (Nat.le_of_ble_eq_true rfl) (Nat.le_of_ble_eq_true rfl) ?_
  refine va_putF (D := D) (ci := 8) (v := .ref q2) (ty := .array .int) (C := RX8) (T := TX8) (N := 16) hx hb hts qcw_8 tyX8 tyX8_ok nmX8 hown hK hP hD hS 0 rfl rfl 2 (by decide) (hts _ (cnW _ (List.mem_of_getElem? (i := 68) rfl))) (fun _ h9 => h9) rfl hin rfl (by decide +kernel) rfl rfl (Nat.le_of_ble_eq_true rfl) dX8_init_25 (fun H locs hP hD hS => ?_)
  have hP : va_P D vwCl ((h0, .inr (8, [.ref q0, .ref q1, .ref q2, .int 0, .null, .int 0, .null, .int 0, .null, .null, .int 0, .null, .null, .null, .null, .null])) :: (q0, cnI cs 118) :: (q1, cnI cs 118) :: (q2, cnI cs 118) :: []) H := hP
  have hD : va_D A ((h0, .inr (8, [.ref q0, .ref q1, .ref q2, .int 0, .null, .int 0, .null, .int 0, .null, .null, .int 0, .null, .null, .null, .null, .null])) :: (q0, cnI cs 118) :: (q1, cnI cs 118) :: (q2, cnI cs 118) :: []) := hD
  refine lv_aload_n hx hb dX8_init_28 rfl (lv_at hl 0 rfl) ?_
  refine lv_bipush (v := 100) hx hb dX8_init_29 (by decide) ?_
  refine cn_newi (N' := 100) (cs := cs) hx hb (hts _ (cnW _ (List.mem_of_getElem? (i := 5) rfl))) hK hP hD hS hA (by decide) rfl (Nat.le_of_ble_eq_true rfl) (Nat.le_of_ble_eq_true rfl) (Nat.le_of_ble_eq_true rfl) dX8_init_31 (fun q3 H hP hD hS => ?_)
  have hP : va_P D vwCl ((h0, .inr (8, [.ref q0, .ref q1, .ref q2, .int 0, .null, .int 0, .null, .int 0, .null, .null, .int 0, .null, .null, .null, .null, .null])) :: (q0, cnI cs 118) :: (q1, cnI cs 118) :: (q2, cnI cs 118) :: (q3, cnI cs 100) :: []) H := hP
  have hD : va_D A ((h0, .inr (8, [.ref q0, .ref q1, .ref q2, .int 0, .null, .int 0, .null, .int 0, .null, .null, .int 0, .null, .null, .null, .null, .null])) :: (q0, cnI cs 118) :: (q1, cnI cs 118) :: (q2, cnI cs 118) :: (q3, cnI cs 100) :: []) := hD
  refine W.widen (k := 4) (n := 454) (Nat.le_of_ble_eq_true rfl) (Nat.le_of_ble_eq_true rfl) ?_
  refine va_putF (D := D) (ci := 8) (v := .ref q3) (ty := .array .int) (C := RX8) (T := TX8) (N := 16) hx hb hts qcw_8 tyX8 tyX8_ok nmX8 hown hK hP hD hS 0 rfl rfl 4 (by decide) (hts _ (cnW _ (List.mem_of_getElem? (i := 69) rfl))) (fun _ h9 => h9) rfl hin rfl (by decide +kernel) rfl rfl (Nat.le_of_ble_eq_true rfl) dX8_init_33 (fun H locs hP hD hS => ?_)
  have hP : va_P D vwCl ((h0, .inr (8, [.ref q0, .ref q1, .ref q2, .int 0, .ref q3, .int 0, .null, .int 0, .null, .null, .int 0, .null, .null, .null, .null, .null])) :: (q0, cnI cs 118) :: (q1, cnI cs 118) :: (q2, cnI cs 118) :: (q3, cnI cs 100) :: []) H := hP
  have hD : va_D A ((h0, .inr (8, [.ref q0, .ref q1, .ref q2, .int 0, .ref q3, .int 0, .null, .int 0, .null, .null, .int 0, .null, .null, .null, .null, .null])) :: (q0, cnI cs 118) :: (q1, cnI cs 118) :: (q2, cnI cs 118) :: (q3, cnI cs 100) :: []) := hD
  refine lv_aload_n hx hb dX8_init_36 rfl (lv_at hl 0 rfl) ?_
  refine lv_bipush (v := 12) hx hb dX8_init_37 (by decide) ?_
  refine cn_newi (N' := 12) (cs := cs) hx hb (hts _ (cnW _ (List.mem_of_getElem? (i := 5) rfl))) hK hP hD hS hA (by decide) rfl (Nat.le_of_ble_eq_true rfl) (Nat.le_of_ble_eq_true rfl) (Nat.le_of_ble_eq_true rfl) dX8_init_39 (fun q4 H hP hD hS => ?_)
  have hP : va_P D vwCl ((h0, .inr (8, [.ref q0, .ref q1, .ref q2, .int 0, .ref q3, .int 0, .null, .int 0, .null, .null, .int 0, .null, .null, .null, .null, .null])) :: (q0, cnI cs 118) :: (q1, cnI cs 118) :: (q2, cnI cs 118) :: (q3, cnI cs 100) :: (q4, cnI cs 12) :: []) H := hP
  have hD : va_D A ((h0, .inr (8, [.ref q0, .ref q1, .ref q2, .int 0, .ref q3, .int 0, .null, .int 0, .null, .null, .int 0, .null, .null, .null, .null, .null])) :: (q0, cnI cs 118) :: (q1, cnI cs 118) :: (q2, cnI cs 118) :: (q3, cnI cs 100) :: (q4, cnI cs 12) :: []) := hD
  refine W.widen (k := 5) (n := 466) (Nat.le_of_ble_eq_true rfl) (Nat.le_of_ble_eq_true rfl) ?_
  refine va_putF (D := D) (ci := 8) (v := .ref q4) (ty := .array .int) (C := RX8) (T := TX8) (N := 16) hx hb hts qcw_8 tyX8 tyX8_ok nmX8 hown hK hP hD hS 0 rfl rfl 6 (by decide) (hts _ (cnW _ (List.mem_of_getElem? (i := 70) rfl))) (fun _ h9 => h9) rfl hin rfl (by decide +kernel) rfl rfl (Nat.le_of_ble_eq_true rfl) dX8_init_41 (fun H locs hP hD hS => ?_)
  have hP : va_P D vwCl ((h0, .inr (8, [.ref q0, .ref q1, .ref q2, .int 0, .ref q3, .int 0, .ref q4, .int 0, .null, .null, .int 0, .null, .null, .null, .null, .null])) :: (q0, cnI cs 118) :: (q1, cnI cs 118) :: (q2, cnI cs 118) :: (q3, cnI cs 100) :: (q4, cnI cs 12) :: []) H := hP
  have hD : va_D A ((h0, .inr (8, [.ref q0, .ref q1, .ref q2, .int 0, .ref q3, .int 0, .ref q4, .int 0, .null, .null, .int 0, .null, .null, .null, .null, .null])) :: (q0, cnI cs 118) :: (q1, cnI cs 118) :: (q2, cnI cs 118) :: (q3, cnI cs 100) :: (q4, cnI cs 12) :: []) := hD
  refine lv_aload_n hx hb dX8_init_44 rfl (lv_at hl 0 rfl) ?_
  refine lv_sipush (v := 4096) hx hb dX8_init_45 (by decide) ?_
  refine cn_newi (N' := 4096) (cs := cs) hx hb (hts _ (cnW _ (List.mem_of_getElem? (i := 5) rfl))) hK hP hD hS hA (by decide) rfl (Nat.le_of_ble_eq_true rfl) (Nat.le_of_ble_eq_true rfl) (Nat.le_of_ble_eq_true rfl) dX8_init_48 (fun q5 H hP hD hS => ?_)
  have hP : va_P D vwCl ((h0, .inr (8, [.ref q0, .ref q1, .ref q2, .int 0, .ref q3, .int 0, .ref q4, .int 0, .null, .null, .int 0, .null, .null, .null, .null, .null])) :: (q0, cnI cs 118) :: (q1, cnI cs 118) :: (q2, cnI cs 118) :: (q3, cnI cs 100) :: (q4, cnI cs 12) :: (q5, cnI cs 4096) :: []) H := hP
  have hD : va_D A ((h0, .inr (8, [.ref q0, .ref q1, .ref q2, .int 0, .ref q3, .int 0, .ref q4, .int 0, .null, .null, .int 0, .null, .null, .null, .null, .null])) :: (q0, cnI cs 118) :: (q1, cnI cs 118) :: (q2, cnI cs 118) :: (q3, cnI cs 100) :: (q4, cnI cs 12) :: (q5, cnI cs 4096) :: []) := hD
  refine W.widen (k := 6) (n := 4562) (Nat.le_of_ble_eq_true rfl) (Nat.le_of_ble_eq_true rfl) ?_
  refine va_putF (D := D) (ci := 8) (v := .ref q5) (ty := .array .int) (C := RX8) (T := TX8) (N := 16) hx hb hts qcw_8 tyX8 tyX8_ok nmX8 hown hK hP hD hS 0 rfl rfl 8 (by decide) (hts _ (cnW _ (List.mem_of_getElem? (i := 71) rfl))) (fun _ h9 => h9) rfl hin rfl (by decide +kernel) rfl rfl (Nat.le_of_ble_eq_true rfl) dX8_init_50 (fun H locs hP hD hS => ?_)
  have hP : va_P D vwCl ((h0, .inr (8, [.ref q0, .ref q1, .ref q2, .int 0, .ref q3, .int 0, .ref q4, .int 0, .ref q5, .null, .int 0, .null, .null, .null, .null, .null])) :: (q0, cnI cs 118) :: (q1, cnI cs 118) :: (q2, cnI cs 118) :: (q3, cnI cs 100) :: (q4, cnI cs 12) :: (q5, cnI cs 4096) :: []) H := hP
  have hD : va_D A ((h0, .inr (8, [.ref q0, .ref q1, .ref q2, .int 0, .ref q3, .int 0, .ref q4, .int 0, .ref q5, .null, .int 0, .null, .null, .null, .null, .null])) :: (q0, cnI cs 118) :: (q1, cnI cs 118) :: (q2, cnI cs 118) :: (q3, cnI cs 100) :: (q4, cnI cs 12) :: (q5, cnI cs 4096) :: []) := hD
  refine lv_aload_n hx hb dX8_init_53 rfl (lv_at hl 0 rfl) ?_
  refine lv_sipush (v := 1024) hx hb dX8_init_54 (by decide) ?_
  refine cn_newi (N' := 1024) (cs := cs) hx hb (hts _ (cnW _ (List.mem_of_getElem? (i := 5) rfl))) hK hP hD hS hA (by decide) rfl (Nat.le_of_ble_eq_true rfl) (Nat.le_of_ble_eq_true rfl) (Nat.le_of_ble_eq_true rfl) dX8_init_57 (fun q6 H hP hD hS => ?_)
  have hP : va_P D vwCl ((h0, .inr (8, [.ref q0, .ref q1, .ref q2, .int 0, .ref q3, .int 0, .ref q4, .int 0, .ref q5, .null, .int 0, .null, .null, .null, .null, .null])) :: (q0, cnI cs 118) :: (q1, cnI cs 118) :: (q2, cnI cs 118) :: (q3, cnI cs 100) :: (q4, cnI cs 12) :: (q5, cnI cs 4096) :: (q6, cnI cs 1024) :: []) H := hP
  have hD : va_D A ((h0, .inr (8, [.ref q0, .ref q1, .ref q2, .int 0, .ref q3, .int 0, .ref q4, .int 0, .ref q5, .null, .int 0, .null, .null, .null, .null, .null])) :: (q0, cnI cs 118) :: (q1, cnI cs 118) :: (q2, cnI cs 118) :: (q3, cnI cs 100) :: (q4, cnI cs 12) :: (q5, cnI cs 4096) :: (q6, cnI cs 1024) :: []) := hD
  refine W.widen (k := 7) (n := 5586) (Nat.le_of_ble_eq_true rfl) (Nat.le_of_ble_eq_true rfl) ?_
  refine va_putF (D := D) (ci := 8) (v := .ref q6) (ty := .array .int) (C := RX8) (T := TX8) (N := 16) hx hb hts qcw_8 tyX8 tyX8_ok nmX8 hown hK hP hD hS 0 rfl rfl 9 (by decide) (hts _ (cnW _ (List.mem_of_getElem? (i := 72) rfl))) (fun _ h9 => h9) rfl hin rfl (by decide +kernel) rfl rfl (Nat.le_of_ble_eq_true rfl) dX8_init_59 (fun H locs hP hD hS => ?_)
  have hP : va_P D vwCl ((h0, .inr (8, [.ref q0, .ref q1, .ref q2, .int 0, .ref q3, .int 0, .ref q4, .int 0, .ref q5, .ref q6, .int 0, .null, .null, .null, .null, .null])) :: (q0, cnI cs 118) :: (q1, cnI cs 118) :: (q2, cnI cs 118) :: (q3, cnI cs 100) :: (q4, cnI cs 12) :: (q5, cnI cs 4096) :: (q6, cnI cs 1024) :: []) H := hP
  have hD : va_D A ((h0, .inr (8, [.ref q0, .ref q1, .ref q2, .int 0, .ref q3, .int 0, .ref q4, .int 0, .ref q5, .ref q6, .int 0, .null, .null, .null, .null, .null])) :: (q0, cnI cs 118) :: (q1, cnI cs 118) :: (q2, cnI cs 118) :: (q3, cnI cs 100) :: (q4, cnI cs 12) :: (q5, cnI cs 4096) :: (q6, cnI cs 1024) :: []) := hD
  refine lv_aload_n hx hb dX8_init_62 rfl (lv_at hl 0 rfl) ?_
  refine lv_sipush (v := 4096) hx hb dX8_init_63 (by decide) ?_
  refine cn_newi (N' := 4096) (cs := cs) hx hb (hts _ (cnW _ (List.mem_of_getElem? (i := 5) rfl))) hK hP hD hS hA (by decide) rfl (Nat.le_of_ble_eq_true rfl) (Nat.le_of_ble_eq_true rfl) (Nat.le_of_ble_eq_true rfl) dX8_init_66 (fun q7 H hP hD hS => ?_)
  have hP : va_P D vwCl ((h0, .inr (8, [.ref q0, .ref q1, .ref q2, .int 0, .ref q3, .int 0, .ref q4, .int 0, .ref q5, .ref q6, .int 0, .null, .null, .null, .null, .null])) :: (q0, cnI cs 118) :: (q1, cnI cs 118) :: (q2, cnI cs 118) :: (q3, cnI cs 100) :: (q4, cnI cs 12) :: (q5, cnI cs 4096) :: (q6, cnI cs 1024) :: (q7, cnI cs 4096) :: []) H := hP
  have hD : va_D A ((h0, .inr (8, [.ref q0, .ref q1, .ref q2, .int 0, .ref q3, .int 0, .ref q4, .int 0, .ref q5, .ref q6, .int 0, .null, .null, .null, .null, .null])) :: (q0, cnI cs 118) :: (q1, cnI cs 118) :: (q2, cnI cs 118) :: (q3, cnI cs 100) :: (q4, cnI cs 12) :: (q5, cnI cs 4096) :: (q6, cnI cs 1024) :: (q7, cnI cs 4096) :: []) := hD
  refine W.widen (k := 8) (n := 9682) (Nat.le_of_ble_eq_true rfl) (Nat.le_of_ble_eq_true rfl) ?_
  refine va_putF (D := D) (ci := 8) (v := .ref q7) (ty := .array .int) (C := RX8) (T := TX8) (N := 16) hx hb hts qcw_8 tyX8 tyX8_ok nmX8 hown hK hP hD hS 0 rfl rfl 11 (by decide) (hts _ (cnW _ (List.mem_of_getElem? (i := 73) rfl))) (fun _ h9 => h9) rfl hin rfl (by decide +kernel) rfl rfl (Nat.le_of_ble_eq_true rfl) dX8_init_68 (fun H locs hP hD hS => ?_)
  have hP : va_P D vwCl ((h0, .inr (8, [.ref q0, .ref q1, .ref q2, .int 0, .ref q3, .int 0, .ref q4, .int 0, .ref q5, .ref q6, .int 0, .ref q7, .null, .null, .null, .null])) :: (q0, cnI cs 118) :: (q1, cnI cs 118) :: (q2, cnI cs 118) :: (q3, cnI cs 100) :: (q4, cnI cs 12) :: (q5, cnI cs 4096) :: (q6, cnI cs 1024) :: (q7, cnI cs 4096) :: []) H := hP
  have hD : va_D A ((h0, .inr (8, [.ref q0, .ref q1, .ref q2, .int 0, .ref q3, .int 0, .ref q4, .int 0, .ref q5, .ref q6, .int 0, .ref q7, .null, .null, .null, .null])) :: (q0, cnI cs 118) :: (q1, cnI cs 118) :: (q2, cnI cs 118) :: (q3, cnI cs 100) :: (q4, cnI cs 12) :: (q5, cnI cs 4096) :: (q6, cnI cs 1024) :: (q7, cnI cs 4096) :: []) := hD
  refine lv_aload_n hx hb dX8_init_71 rfl (lv_at hl 0 rfl) ?_
  refine lv_bipush (v := 6) hx hb dX8_init_72 (by decide) ?_
  refine cn_newi (N' := 6) (cs := cs) hx hb (hts _ (cnW _ (List.mem_of_getElem? (i := 5) rfl))) hK hP hD hS hA (by decide) rfl (Nat.le_of_ble_eq_true rfl) (Nat.le_of_ble_eq_true rfl) (Nat.le_of_ble_eq_true rfl) dX8_init_74 (fun q8 H hP hD hS => ?_)
  have hP : va_P D vwCl ((h0, .inr (8, [.ref q0, .ref q1, .ref q2, .int 0, .ref q3, .int 0, .ref q4, .int 0, .ref q5, .ref q6, .int 0, .ref q7, .null, .null, .null, .null])) :: (q0, cnI cs 118) :: (q1, cnI cs 118) :: (q2, cnI cs 118) :: (q3, cnI cs 100) :: (q4, cnI cs 12) :: (q5, cnI cs 4096) :: (q6, cnI cs 1024) :: (q7, cnI cs 4096) :: (q8, cnI cs 6) :: []) H := hP
  have hD : va_D A ((h0, .inr (8, [.ref q0, .ref q1, .ref q2, .int 0, .ref q3, .int 0, .ref q4, .int 0, .ref q5, .ref q6, .int 0, .ref q7, .null, .null, .null, .null])) :: (q0, cnI cs 118) :: (q1, cnI cs 118) :: (q2, cnI cs 118) :: (q3, cnI cs 100) :: (q4, cnI cs 12) :: (q5, cnI cs 4096) :: (q6, cnI cs 1024) :: (q7, cnI cs 4096) :: (q8, cnI cs 6) :: []) := hD
  refine W.widen (k := 9) (n := 9688) (Nat.le_of_ble_eq_true rfl) (Nat.le_of_ble_eq_true rfl) ?_
  refine lv_dup hx hb dX8_init_76 rfl ?_
  refine lv_iconst (v := 0) hx hb dX8_init_77 (by decide) ?_
  refine lv_iconst (v := -1) hx hb dX8_init_78 (by decide) ?_
  refine va_iast (D := D) hx hb hK hP hD hS 9 0 rfl rfl (by unfold vp_in; decide) dX8_init_79 (fun H locs hP hD hS => ?_)
  have hP : va_P D vwCl ((h0, .inr (8, [.ref q0, .ref q1, .ref q2, .int 0, .ref q3, .int 0, .ref q4, .int 0, .ref q5, .ref q6, .int 0, .ref q7, .null, .null, .null, .null])) :: (q0, cnI cs 118) :: (q1, cnI cs 118) :: (q2, cnI cs 118) :: (q3, cnI cs 100) :: (q4, cnI cs 12) :: (q5, cnI cs 4096) :: (q6, cnI cs 1024) :: (q7, cnI cs 4096) :: (q8, .inl (cs 0, 6, .inl (upd (fun _ => 0) (0 : Int32).toNatClampNeg (-1)))) :: []) H := hP
  have hD : va_D A ((h0, .inr (8, [.ref q0, .ref q1, .ref q2, .int 0, .ref q3, .int 0, .ref q4, .int 0, .ref q5, .ref q6, .int 0, .ref q7, .null, .null, .null, .null])) :: (q0, cnI cs 118) :: (q1, cnI cs 118) :: (q2, cnI cs 118) :: (q3, cnI cs 100) :: (q4, cnI cs 12) :: (q5, cnI cs 4096) :: (q6, cnI cs 1024) :: (q7, cnI cs 4096) :: (q8, .inl (cs 0, 6, .inl (upd (fun _ => 0) (0 : Int32).toNatClampNeg (-1)))) :: []) := hD
  refine lv_dup hx hb dX8_init_80 rfl ?_
  refine lv_iconst (v := 1) hx hb dX8_init_81 (by decide) ?_
  refine lv_iconst (v := -1) hx hb dX8_init_82 (by decide) ?_
  refine va_iast (D := D) hx hb hK hP hD hS 9 0 rfl rfl (by unfold vp_in; decide) dX8_init_83 (fun H locs hP hD hS => ?_)
  have hP : va_P D vwCl ((h0, .inr (8, [.ref q0, .ref q1, .ref q2, .int 0, .ref q3, .int 0, .ref q4, .int 0, .ref q5, .ref q6, .int 0, .ref q7, .null, .null, .null, .null])) :: (q0, cnI cs 118) :: (q1, cnI cs 118) :: (q2, cnI cs 118) :: (q3, cnI cs 100) :: (q4, cnI cs 12) :: (q5, cnI cs 4096) :: (q6, cnI cs 1024) :: (q7, cnI cs 4096) :: (q8, .inl (cs 0, 6, .inl (upd (upd (fun _ => 0) (0 : Int32).toNatClampNeg (-1)) (1 : Int32).toNatClampNeg (-1)))) :: []) H := hP
  have hD : va_D A ((h0, .inr (8, [.ref q0, .ref q1, .ref q2, .int 0, .ref q3, .int 0, .ref q4, .int 0, .ref q5, .ref q6, .int 0, .ref q7, .null, .null, .null, .null])) :: (q0, cnI cs 118) :: (q1, cnI cs 118) :: (q2, cnI cs 118) :: (q3, cnI cs 100) :: (q4, cnI cs 12) :: (q5, cnI cs 4096) :: (q6, cnI cs 1024) :: (q7, cnI cs 4096) :: (q8, .inl (cs 0, 6, .inl (upd (upd (fun _ => 0) (0 : Int32).toNatClampNeg (-1)) (1 : Int32).toNatClampNeg (-1)))) :: []) := hD
  refine lv_dup hx hb dX8_init_84 rfl ?_
  refine lv_iconst (v := 2) hx hb dX8_init_85 (by decide) ?_
  refine lv_iconst (v := -1) hx hb dX8_init_86 (by decide) ?_
  refine va_iast (D := D) hx hb hK hP hD hS 9 0 rfl rfl (by unfold vp_in; decide) dX8_init_87 (fun H locs hP hD hS => ?_)
  have hP : va_P D vwCl ((h0, .inr (8, [.ref q0, .ref q1, .ref q2, .int 0, .ref q3, .int 0, .ref q4, .int 0, .ref q5, .ref q6, .int 0, .ref q7, .null, .null, .null, .null])) :: (q0, cnI cs 118) :: (q1, cnI cs 118) :: (q2, cnI cs 118) :: (q3, cnI cs 100) :: (q4, cnI cs 12) :: (q5, cnI cs 4096) :: (q6, cnI cs 1024) :: (q7, cnI cs 4096) :: (q8, .inl (cs 0, 6, .inl (upd (upd (upd (fun _ => 0) (0 : Int32).toNatClampNeg (-1)) (1 : Int32).toNatClampNeg (-1)) (2 : Int32).toNatClampNeg (-1)))) :: []) H := hP
  have hD : va_D A ((h0, .inr (8, [.ref q0, .ref q1, .ref q2, .int 0, .ref q3, .int 0, .ref q4, .int 0, .ref q5, .ref q6, .int 0, .ref q7, .null, .null, .null, .null])) :: (q0, cnI cs 118) :: (q1, cnI cs 118) :: (q2, cnI cs 118) :: (q3, cnI cs 100) :: (q4, cnI cs 12) :: (q5, cnI cs 4096) :: (q6, cnI cs 1024) :: (q7, cnI cs 4096) :: (q8, .inl (cs 0, 6, .inl (upd (upd (upd (fun _ => 0) (0 : Int32).toNatClampNeg (-1)) (1 : Int32).toNatClampNeg (-1)) (2 : Int32).toNatClampNeg (-1)))) :: []) := hD
  refine lv_dup hx hb dX8_init_88 rfl ?_
  refine lv_iconst (v := 3) hx hb dX8_init_89 (by decide) ?_
  refine lv_iconst (v := -1) hx hb dX8_init_90 (by decide) ?_
  refine va_iast (D := D) hx hb hK hP hD hS 9 0 rfl rfl (by unfold vp_in; decide) dX8_init_91 (fun H locs hP hD hS => ?_)
  have hP : va_P D vwCl ((h0, .inr (8, [.ref q0, .ref q1, .ref q2, .int 0, .ref q3, .int 0, .ref q4, .int 0, .ref q5, .ref q6, .int 0, .ref q7, .null, .null, .null, .null])) :: (q0, cnI cs 118) :: (q1, cnI cs 118) :: (q2, cnI cs 118) :: (q3, cnI cs 100) :: (q4, cnI cs 12) :: (q5, cnI cs 4096) :: (q6, cnI cs 1024) :: (q7, cnI cs 4096) :: (q8, .inl (cs 0, 6, .inl (upd (upd (upd (upd (fun _ => 0) (0 : Int32).toNatClampNeg (-1)) (1 : Int32).toNatClampNeg (-1)) (2 : Int32).toNatClampNeg (-1)) (3 : Int32).toNatClampNeg (-1)))) :: []) H := hP
  have hD : va_D A ((h0, .inr (8, [.ref q0, .ref q1, .ref q2, .int 0, .ref q3, .int 0, .ref q4, .int 0, .ref q5, .ref q6, .int 0, .ref q7, .null, .null, .null, .null])) :: (q0, cnI cs 118) :: (q1, cnI cs 118) :: (q2, cnI cs 118) :: (q3, cnI cs 100) :: (q4, cnI cs 12) :: (q5, cnI cs 4096) :: (q6, cnI cs 1024) :: (q7, cnI cs 4096) :: (q8, .inl (cs 0, 6, .inl (upd (upd (upd (upd (fun _ => 0) (0 : Int32).toNatClampNeg (-1)) (1 : Int32).toNatClampNeg (-1)) (2 : Int32).toNatClampNeg (-1)) (3 : Int32).toNatClampNeg (-1)))) :: []) := hD
  refine lv_dup hx hb dX8_init_92 rfl ?_
  refine lv_iconst (v := 4) hx hb dX8_init_93 (by decide) ?_
  refine lv_iconst (v := -1) hx hb dX8_init_94 (by decide) ?_
  refine va_iast (D := D) hx hb hK hP hD hS 9 0 rfl rfl (by unfold vp_in; decide) dX8_init_95 (fun H locs hP hD hS => ?_)
  have hP : va_P D vwCl ((h0, .inr (8, [.ref q0, .ref q1, .ref q2, .int 0, .ref q3, .int 0, .ref q4, .int 0, .ref q5, .ref q6, .int 0, .ref q7, .null, .null, .null, .null])) :: (q0, cnI cs 118) :: (q1, cnI cs 118) :: (q2, cnI cs 118) :: (q3, cnI cs 100) :: (q4, cnI cs 12) :: (q5, cnI cs 4096) :: (q6, cnI cs 1024) :: (q7, cnI cs 4096) :: (q8, .inl (cs 0, 6, .inl (upd (upd (upd (upd (upd (fun _ => 0) (0 : Int32).toNatClampNeg (-1)) (1 : Int32).toNatClampNeg (-1)) (2 : Int32).toNatClampNeg (-1)) (3 : Int32).toNatClampNeg (-1)) (4 : Int32).toNatClampNeg (-1)))) :: []) H := hP
  have hD : va_D A ((h0, .inr (8, [.ref q0, .ref q1, .ref q2, .int 0, .ref q3, .int 0, .ref q4, .int 0, .ref q5, .ref q6, .int 0, .ref q7, .null, .null, .null, .null])) :: (q0, cnI cs 118) :: (q1, cnI cs 118) :: (q2, cnI cs 118) :: (q3, cnI cs 100) :: (q4, cnI cs 12) :: (q5, cnI cs 4096) :: (q6, cnI cs 1024) :: (q7, cnI cs 4096) :: (q8, .inl (cs 0, 6, .inl (upd (upd (upd (upd (upd (fun _ => 0) (0 : Int32).toNatClampNeg (-1)) (1 : Int32).toNatClampNeg (-1)) (2 : Int32).toNatClampNeg (-1)) (3 : Int32).toNatClampNeg (-1)) (4 : Int32).toNatClampNeg (-1)))) :: []) := hD
  refine lv_dup hx hb dX8_init_96 rfl ?_
  refine lv_iconst (v := 5) hx hb dX8_init_97 (by decide) ?_
  refine lv_iconst (v := -1) hx hb dX8_init_98 (by decide) ?_
  refine va_iast (D := D) hx hb hK hP hD hS 9 0 rfl rfl (by unfold vp_in; decide) dX8_init_99 (fun H locs hP hD hS => ?_)
  have hP : va_P D vwCl ((h0, .inr (8, [.ref q0, .ref q1, .ref q2, .int 0, .ref q3, .int 0, .ref q4, .int 0, .ref q5, .ref q6, .int 0, .ref q7, .null, .null, .null, .null])) :: (q0, cnI cs 118) :: (q1, cnI cs 118) :: (q2, cnI cs 118) :: (q3, cnI cs 100) :: (q4, cnI cs 12) :: (q5, cnI cs 4096) :: (q6, cnI cs 1024) :: (q7, cnI cs 4096) :: (q8, .inl (cs 0, 6, .inl (upd (upd (upd (upd (upd (upd (fun _ => 0) (0 : Int32).toNatClampNeg (-1)) (1 : Int32).toNatClampNeg (-1)) (2 : Int32).toNatClampNeg (-1)) (3 : Int32).toNatClampNeg (-1)) (4 : Int32).toNatClampNeg (-1)) (5 : Int32).toNatClampNeg (-1)))) :: []) H := hP
  have hD : va_D A ((h0, .inr (8, [.ref q0, .ref q1, .ref q2, .int 0, .ref q3, .int 0, .ref q4, .int 0, .ref q5, .ref q6, .int 0, .ref q7, .null, .null, .null, .null])) :: (q0, cnI cs 118) :: (q1, cnI cs 118) :: (q2, cnI cs 118) :: (q3, cnI cs 100) :: (q4, cnI cs 12) :: (q5, cnI cs 4096) :: (q6, cnI cs 1024) :: (q7, cnI cs 4096) :: (q8, .inl (cs 0, 6, .inl (upd (upd (upd (upd (upd (upd (fun _ => 0) (0 : Int32).toNatClampNeg (-1)) (1 : Int32).toNatClampNeg (-1)) (2 : Int32).toNatClampNeg (-1)) (3 : Int32).toNatClampNeg (-1)) (4 : Int32).toNatClampNeg (-1)) (5 : Int32).toNatClampNeg (-1)))) :: []) := hD
  refine va_putF (D := D) (ci := 8) (v := .ref q8) (ty := .array .int) (C := RX8) (T := TX8) (N := 16) hx hb hts qcw_8 tyX8 tyX8_ok nmX8 hown hK hP hD hS 0 rfl rfl 12 (by decide) (hts _ (cnW _ (List.mem_of_getElem? (i := 74) rfl))) (fun _ h9 => h9) rfl hin rfl (by decide +kernel) rfl rfl (Nat.le_of_ble_eq_true rfl) dX8_init_100 (fun H locs hP hD hS => ?_)
  have hP : va_P D vwCl ((h0, .inr (8, [.ref q0, .ref q1, .ref q2, .int 0, .ref q3, .int 0, .ref q4, .int 0, .ref q5, .ref q6, .int 0, .ref q7, .ref q8, .null, .null, .null])) :: (q0, cnI cs 118) :: (q1, cnI cs 118) :: (q2, cnI cs 118) :: (q3, cnI cs 100) :: (q4, cnI cs 12) :: (q5, cnI cs 4096) :: (q6, cnI cs 1024) :: (q7, cnI cs 4096) :: (q8, .inl (cs 0, 6, .inl (upd (upd (upd (upd (upd (upd (fun _ => 0) (0 : Int32).toNatClampNeg (-1)) (1 : Int32).toNatClampNeg (-1)) (2 : Int32).toNatClampNeg (-1)) (3 : Int32).toNatClampNeg (-1)) (4 : Int32).toNatClampNeg (-1)) (5 : Int32).toNatClampNeg (-1)))) :: []) H := hP
  have hD : va_D A ((h0, .inr (8, [.ref q0, .ref q1, .ref q2, .int 0, .ref q3, .int 0, .ref q4, .int 0, .ref q5, .ref q6, .int 0, .ref q7, .ref q8, .null, .null, .null])) :: (q0, cnI cs 118) :: (q1, cnI cs 118) :: (q2, cnI cs 118) :: (q3, cnI cs 100) :: (q4, cnI cs 12) :: (q5, cnI cs 4096) :: (q6, cnI cs 1024) :: (q7, cnI cs 4096) :: (q8, .inl (cs 0, 6, .inl (upd (upd (upd (upd (upd (upd (fun _ => 0) (0 : Int32).toNatClampNeg (-1)) (1 : Int32).toNatClampNeg (-1)) (2 : Int32).toNatClampNeg (-1)) (3 : Int32).toNatClampNeg (-1)) (4 : Int32).toNatClampNeg (-1)) (5 : Int32).toNatClampNeg (-1)))) :: []) := hD
  refine lv_aload_n hx hb dX8_init_103 rfl (lv_at hl 0 rfl) ?_
  refine lv_bipush (v := 6) hx hb dX8_init_104 (by decide) ?_
  refine cn_newi (N' := 6) (cs := cs) hx hb (hts _ (cnW _ (List.mem_of_getElem? (i := 5) rfl))) hK hP hD hS hA (by decide) rfl (Nat.le_of_ble_eq_true rfl) (Nat.le_of_ble_eq_true rfl) (Nat.le_of_ble_eq_true rfl) dX8_init_106 (fun q9 H hP hD hS => ?_)
  have hP : va_P D vwCl ((h0, .inr (8, [.ref q0, .ref q1, .ref q2, .int 0, .ref q3, .int 0, .ref q4, .int 0, .ref q5, .ref q6, .int 0, .ref q7, .ref q8, .null, .null, .null])) :: (q0, cnI cs 118) :: (q1, cnI cs 118) :: (q2, cnI cs 118) :: (q3, cnI cs 100) :: (q4, cnI cs 12) :: (q5, cnI cs 4096) :: (q6, cnI cs 1024) :: (q7, cnI cs 4096) :: (q8, .inl (cs 0, 6, .inl (upd (upd (upd (upd (upd (upd (fun _ => 0) (0 : Int32).toNatClampNeg (-1)) (1 : Int32).toNatClampNeg (-1)) (2 : Int32).toNatClampNeg (-1)) (3 : Int32).toNatClampNeg (-1)) (4 : Int32).toNatClampNeg (-1)) (5 : Int32).toNatClampNeg (-1)))) :: (q9, cnI cs 6) :: []) H := hP
  have hD : va_D A ((h0, .inr (8, [.ref q0, .ref q1, .ref q2, .int 0, .ref q3, .int 0, .ref q4, .int 0, .ref q5, .ref q6, .int 0, .ref q7, .ref q8, .null, .null, .null])) :: (q0, cnI cs 118) :: (q1, cnI cs 118) :: (q2, cnI cs 118) :: (q3, cnI cs 100) :: (q4, cnI cs 12) :: (q5, cnI cs 4096) :: (q6, cnI cs 1024) :: (q7, cnI cs 4096) :: (q8, .inl (cs 0, 6, .inl (upd (upd (upd (upd (upd (upd (fun _ => 0) (0 : Int32).toNatClampNeg (-1)) (1 : Int32).toNatClampNeg (-1)) (2 : Int32).toNatClampNeg (-1)) (3 : Int32).toNatClampNeg (-1)) (4 : Int32).toNatClampNeg (-1)) (5 : Int32).toNatClampNeg (-1)))) :: (q9, cnI cs 6) :: []) := hD
  refine W.widen (k := 10) (n := 9694) (Nat.le_of_ble_eq_true rfl) (Nat.le_of_ble_eq_true rfl) ?_
  refine va_putF (D := D) (ci := 8) (v := .ref q9) (ty := .array .int) (C := RX8) (T := TX8) (N := 16) hx hb hts qcw_8 tyX8 tyX8_ok nmX8 hown hK hP hD hS 0 rfl rfl 13 (by decide) (hts _ (cnW _ (List.mem_of_getElem? (i := 75) rfl))) (fun _ h9 => h9) rfl hin rfl (by decide +kernel) rfl rfl (Nat.le_of_ble_eq_true rfl) dX8_init_108 (fun H locs hP hD hS => ?_)
  have hP : va_P D vwCl ((h0, .inr (8, [.ref q0, .ref q1, .ref q2, .int 0, .ref q3, .int 0, .ref q4, .int 0, .ref q5, .ref q6, .int 0, .ref q7, .ref q8, .ref q9, .null, .null])) :: (q0, cnI cs 118) :: (q1, cnI cs 118) :: (q2, cnI cs 118) :: (q3, cnI cs 100) :: (q4, cnI cs 12) :: (q5, cnI cs 4096) :: (q6, cnI cs 1024) :: (q7, cnI cs 4096) :: (q8, .inl (cs 0, 6, .inl (upd (upd (upd (upd (upd (upd (fun _ => 0) (0 : Int32).toNatClampNeg (-1)) (1 : Int32).toNatClampNeg (-1)) (2 : Int32).toNatClampNeg (-1)) (3 : Int32).toNatClampNeg (-1)) (4 : Int32).toNatClampNeg (-1)) (5 : Int32).toNatClampNeg (-1)))) :: (q9, cnI cs 6) :: []) H := hP
  have hD : va_D A ((h0, .inr (8, [.ref q0, .ref q1, .ref q2, .int 0, .ref q3, .int 0, .ref q4, .int 0, .ref q5, .ref q6, .int 0, .ref q7, .ref q8, .ref q9, .null, .null])) :: (q0, cnI cs 118) :: (q1, cnI cs 118) :: (q2, cnI cs 118) :: (q3, cnI cs 100) :: (q4, cnI cs 12) :: (q5, cnI cs 4096) :: (q6, cnI cs 1024) :: (q7, cnI cs 4096) :: (q8, .inl (cs 0, 6, .inl (upd (upd (upd (upd (upd (upd (fun _ => 0) (0 : Int32).toNatClampNeg (-1)) (1 : Int32).toNatClampNeg (-1)) (2 : Int32).toNatClampNeg (-1)) (3 : Int32).toNatClampNeg (-1)) (4 : Int32).toNatClampNeg (-1)) (5 : Int32).toNatClampNeg (-1)))) :: (q9, cnI cs 6) :: []) := hD
  refine lv_aload_n hx hb dX8_init_111 rfl (lv_at hl 0 rfl) ?_
  refine lv_bipush (v := 6) hx hb dX8_init_112 (by decide) ?_
  refine lv_bipush (v := 60) hx hb dX8_init_114 (by decide) ?_
  refine cn_grid (cs := cs) hx hb hown (hts _ (cnW _ (List.mem_of_getElem? (i := 76) rfl))) hO.2.1 (hts _ (cnW _ (List.mem_of_getElem? (i := 8) rfl))) hK hP hD hS hA (Nat.le_of_ble_eq_true rfl) (Nat.le_of_ble_eq_true rfl) dX8_init_116 (fun q10 H hP hD hS => ?_)
  have hP : va_P D vwCl ((h0, .inr (8, [.ref q0, .ref q1, .ref q2, .int 0, .ref q3, .int 0, .ref q4, .int 0, .ref q5, .ref q6, .int 0, .ref q7, .ref q8, .ref q9, .null, .null])) :: (q0, cnI cs 118) :: (q1, cnI cs 118) :: (q2, cnI cs 118) :: (q3, cnI cs 100) :: (q4, cnI cs 12) :: (q5, cnI cs 4096) :: (q6, cnI cs 1024) :: (q7, cnI cs 4096) :: (q8, .inl (cs 0, 6, .inl (upd (upd (upd (upd (upd (upd (fun _ => 0) (0 : Int32).toNatClampNeg (-1)) (1 : Int32).toNatClampNeg (-1)) (2 : Int32).toNatClampNeg (-1)) (3 : Int32).toNatClampNeg (-1)) (4 : Int32).toNatClampNeg (-1)) (5 : Int32).toNatClampNeg (-1)))) :: (q9, cnI cs 6) :: (q10, .inl (cs 4, 6, .inr (.inr (.inr (.inr (cnGF q10)))))) :: (q10 + 1, cnL cs 60) :: (q10 + 2, cnL cs 60) :: (q10 + 3, cnL cs 60) :: (q10 + 4, cnL cs 60) :: (q10 + 5, cnL cs 60) :: (q10 + 6, cnL cs 60) :: []) H := hP
  have hD : va_D A ((h0, .inr (8, [.ref q0, .ref q1, .ref q2, .int 0, .ref q3, .int 0, .ref q4, .int 0, .ref q5, .ref q6, .int 0, .ref q7, .ref q8, .ref q9, .null, .null])) :: (q0, cnI cs 118) :: (q1, cnI cs 118) :: (q2, cnI cs 118) :: (q3, cnI cs 100) :: (q4, cnI cs 12) :: (q5, cnI cs 4096) :: (q6, cnI cs 1024) :: (q7, cnI cs 4096) :: (q8, .inl (cs 0, 6, .inl (upd (upd (upd (upd (upd (upd (fun _ => 0) (0 : Int32).toNatClampNeg (-1)) (1 : Int32).toNatClampNeg (-1)) (2 : Int32).toNatClampNeg (-1)) (3 : Int32).toNatClampNeg (-1)) (4 : Int32).toNatClampNeg (-1)) (5 : Int32).toNatClampNeg (-1)))) :: (q9, cnI cs 6) :: (q10, .inl (cs 4, 6, .inr (.inr (.inr (.inr (cnGF q10)))))) :: (q10 + 1, cnL cs 60) :: (q10 + 2, cnL cs 60) :: (q10 + 3, cnL cs 60) :: (q10 + 4, cnL cs 60) :: (q10 + 5, cnL cs 60) :: (q10 + 6, cnL cs 60) :: []) := hD
  refine W.widen (k := 17) (n := 10060) (Nat.le_of_ble_eq_true rfl) (Nat.le_of_ble_eq_true rfl) ?_
  refine va_putF (D := D) (ci := 8) (v := .ref q10) (ty := .array (.array .long)) (C := RX8) (T := TX8) (N := 16) hx hb hts qcw_8 tyX8 tyX8_ok nmX8 hown hK hP hD hS 0 rfl rfl 14 (by decide) (hts _ (cnW _ (List.mem_of_getElem? (i := 77) rfl))) (fun _ h9 => h9) rfl hin rfl (by decide +kernel) rfl rfl (Nat.le_of_ble_eq_true rfl) dX8_init_120 (fun H locs hP hD hS => ?_)
  have hP : va_P D vwCl ((h0, .inr (8, [.ref q0, .ref q1, .ref q2, .int 0, .ref q3, .int 0, .ref q4, .int 0, .ref q5, .ref q6, .int 0, .ref q7, .ref q8, .ref q9, .ref q10, .null])) :: (q0, cnI cs 118) :: (q1, cnI cs 118) :: (q2, cnI cs 118) :: (q3, cnI cs 100) :: (q4, cnI cs 12) :: (q5, cnI cs 4096) :: (q6, cnI cs 1024) :: (q7, cnI cs 4096) :: (q8, .inl (cs 0, 6, .inl (upd (upd (upd (upd (upd (upd (fun _ => 0) (0 : Int32).toNatClampNeg (-1)) (1 : Int32).toNatClampNeg (-1)) (2 : Int32).toNatClampNeg (-1)) (3 : Int32).toNatClampNeg (-1)) (4 : Int32).toNatClampNeg (-1)) (5 : Int32).toNatClampNeg (-1)))) :: (q9, cnI cs 6) :: (q10, .inl (cs 4, 6, .inr (.inr (.inr (.inr (cnGF q10)))))) :: (q10 + 1, cnL cs 60) :: (q10 + 2, cnL cs 60) :: (q10 + 3, cnL cs 60) :: (q10 + 4, cnL cs 60) :: (q10 + 5, cnL cs 60) :: (q10 + 6, cnL cs 60) :: []) H := hP
  have hD : va_D A ((h0, .inr (8, [.ref q0, .ref q1, .ref q2, .int 0, .ref q3, .int 0, .ref q4, .int 0, .ref q5, .ref q6, .int 0, .ref q7, .ref q8, .ref q9, .ref q10, .null])) :: (q0, cnI cs 118) :: (q1, cnI cs 118) :: (q2, cnI cs 118) :: (q3, cnI cs 100) :: (q4, cnI cs 12) :: (q5, cnI cs 4096) :: (q6, cnI cs 1024) :: (q7, cnI cs 4096) :: (q8, .inl (cs 0, 6, .inl (upd (upd (upd (upd (upd (upd (fun _ => 0) (0 : Int32).toNatClampNeg (-1)) (1 : Int32).toNatClampNeg (-1)) (2 : Int32).toNatClampNeg (-1)) (3 : Int32).toNatClampNeg (-1)) (4 : Int32).toNatClampNeg (-1)) (5 : Int32).toNatClampNeg (-1)))) :: (q9, cnI cs 6) :: (q10, .inl (cs 4, 6, .inr (.inr (.inr (.inr (cnGF q10)))))) :: (q10 + 1, cnL cs 60) :: (q10 + 2, cnL cs 60) :: (q10 + 3, cnL cs 60) :: (q10 + 4, cnL cs 60) :: (q10 + 5, cnL cs 60) :: (q10 + 6, cnL cs 60) :: []) := hD
  refine lv_aload_n hx hb dX8_init_123 rfl (lv_at hl 0 rfl) ?_
  refine lv_bipush (v := 60) hx hb dX8_init_124 (by decide) ?_
  refine cn_newl (N' := 60) (cs := cs) hx hb (hts _ (cnW _ (List.mem_of_getElem? (i := 8) rfl))) hK hP hD hS hA (by decide) rfl (Nat.le_of_ble_eq_true rfl) (Nat.le_of_ble_eq_true rfl) (Nat.le_of_ble_eq_true rfl) dX8_init_126 (fun q11 H hP hD hS => ?_)
  have hP : va_P D vwCl ((h0, .inr (8, [.ref q0, .ref q1, .ref q2, .int 0, .ref q3, .int 0, .ref q4, .int 0, .ref q5, .ref q6, .int 0, .ref q7, .ref q8, .ref q9, .ref q10, .null])) :: (q0, cnI cs 118) :: (q1, cnI cs 118) :: (q2, cnI cs 118) :: (q3, cnI cs 100) :: (q4, cnI cs 12) :: (q5, cnI cs 4096) :: (q6, cnI cs 1024) :: (q7, cnI cs 4096) :: (q8, .inl (cs 0, 6, .inl (upd (upd (upd (upd (upd (upd (fun _ => 0) (0 : Int32).toNatClampNeg (-1)) (1 : Int32).toNatClampNeg (-1)) (2 : Int32).toNatClampNeg (-1)) (3 : Int32).toNatClampNeg (-1)) (4 : Int32).toNatClampNeg (-1)) (5 : Int32).toNatClampNeg (-1)))) :: (q9, cnI cs 6) :: (q10, .inl (cs 4, 6, .inr (.inr (.inr (.inr (cnGF q10)))))) :: (q10 + 1, cnL cs 60) :: (q10 + 2, cnL cs 60) :: (q10 + 3, cnL cs 60) :: (q10 + 4, cnL cs 60) :: (q10 + 5, cnL cs 60) :: (q10 + 6, cnL cs 60) :: (q11, cnL cs 60) :: []) H := hP
  have hD : va_D A ((h0, .inr (8, [.ref q0, .ref q1, .ref q2, .int 0, .ref q3, .int 0, .ref q4, .int 0, .ref q5, .ref q6, .int 0, .ref q7, .ref q8, .ref q9, .ref q10, .null])) :: (q0, cnI cs 118) :: (q1, cnI cs 118) :: (q2, cnI cs 118) :: (q3, cnI cs 100) :: (q4, cnI cs 12) :: (q5, cnI cs 4096) :: (q6, cnI cs 1024) :: (q7, cnI cs 4096) :: (q8, .inl (cs 0, 6, .inl (upd (upd (upd (upd (upd (upd (fun _ => 0) (0 : Int32).toNatClampNeg (-1)) (1 : Int32).toNatClampNeg (-1)) (2 : Int32).toNatClampNeg (-1)) (3 : Int32).toNatClampNeg (-1)) (4 : Int32).toNatClampNeg (-1)) (5 : Int32).toNatClampNeg (-1)))) :: (q9, cnI cs 6) :: (q10, .inl (cs 4, 6, .inr (.inr (.inr (.inr (cnGF q10)))))) :: (q10 + 1, cnL cs 60) :: (q10 + 2, cnL cs 60) :: (q10 + 3, cnL cs 60) :: (q10 + 4, cnL cs 60) :: (q10 + 5, cnL cs 60) :: (q10 + 6, cnL cs 60) :: (q11, cnL cs 60) :: []) := hD
  refine W.widen (k := 18) (n := 10120) (Nat.le_of_ble_eq_true rfl) (Nat.le_of_ble_eq_true rfl) ?_
  refine va_putF (D := D) (ci := 8) (v := .ref q11) (ty := .array .long) (C := RX8) (T := TX8) (N := 16) hx hb hts qcw_8 tyX8 tyX8_ok nmX8 hown hK hP hD hS 0 rfl rfl 15 (by decide) (hts _ (cnW _ (List.mem_of_getElem? (i := 78) rfl))) (fun _ h9 => h9) rfl hin rfl (by decide +kernel) rfl rfl (Nat.le_of_ble_eq_true rfl) dX8_init_128 (fun H locs hP hD hS => ?_)
  have hP : va_P D vwCl ((h0, .inr (8, [.ref q0, .ref q1, .ref q2, .int 0, .ref q3, .int 0, .ref q4, .int 0, .ref q5, .ref q6, .int 0, .ref q7, .ref q8, .ref q9, .ref q10, .ref q11])) :: (q0, cnI cs 118) :: (q1, cnI cs 118) :: (q2, cnI cs 118) :: (q3, cnI cs 100) :: (q4, cnI cs 12) :: (q5, cnI cs 4096) :: (q6, cnI cs 1024) :: (q7, cnI cs 4096) :: (q8, .inl (cs 0, 6, .inl (upd (upd (upd (upd (upd (upd (fun _ => 0) (0 : Int32).toNatClampNeg (-1)) (1 : Int32).toNatClampNeg (-1)) (2 : Int32).toNatClampNeg (-1)) (3 : Int32).toNatClampNeg (-1)) (4 : Int32).toNatClampNeg (-1)) (5 : Int32).toNatClampNeg (-1)))) :: (q9, cnI cs 6) :: (q10, .inl (cs 4, 6, .inr (.inr (.inr (.inr (cnGF q10)))))) :: (q10 + 1, cnL cs 60) :: (q10 + 2, cnL cs 60) :: (q10 + 3, cnL cs 60) :: (q10 + 4, cnL cs 60) :: (q10 + 5, cnL cs 60) :: (q10 + 6, cnL cs 60) :: (q11, cnL cs 60) :: []) H := hP
  have hD : va_D A ((h0, .inr (8, [.ref q0, .ref q1, .ref q2, .int 0, .ref q3, .int 0, .ref q4, .int 0, .ref q5, .ref q6, .int 0, .ref q7, .ref q8, .ref q9, .ref q10, .ref q11])) :: (q0, cnI cs 118) :: (q1, cnI cs 118) :: (q2, cnI cs 118) :: (q3, cnI cs 100) :: (q4, cnI cs 12) :: (q5, cnI cs 4096) :: (q6, cnI cs 1024) :: (q7, cnI cs 4096) :: (q8, .inl (cs 0, 6, .inl (upd (upd (upd (upd (upd (upd (fun _ => 0) (0 : Int32).toNatClampNeg (-1)) (1 : Int32).toNatClampNeg (-1)) (2 : Int32).toNatClampNeg (-1)) (3 : Int32).toNatClampNeg (-1)) (4 : Int32).toNatClampNeg (-1)) (5 : Int32).toNatClampNeg (-1)))) :: (q9, cnI cs 6) :: (q10, .inl (cs 4, 6, .inr (.inr (.inr (.inr (cnGF q10)))))) :: (q10 + 1, cnL cs 60) :: (q10 + 2, cnL cs 60) :: (q10 + 3, cnL cs 60) :: (q10 + 4, cnL cs 60) :: (q10 + 5, cnL cs 60) :: (q10 + 6, cnL cs 60) :: (q11, cnL cs 60) :: []) := hD
  refine lv_aload_n hx hb dX8_init_131 rfl (lv_at hl 0 rfl) ?_
  refine va_get (D := D) (ci := 8) (v := .ref q0) (C := RX8) (T := TX8) (N := 16) hx hb hts qcw_8 hown hK hP 0 rfl rfl 0 (by decide) (hts _ (cnW _ (List.mem_of_getElem? (i := 66) rfl))) (fun _ h9 => h9) rfl dX8_init_132 ?_
  refine lv_iconst (v := 0) hx hb dX8_init_135 (by decide) ?_
  refine lv_iconst (v := 4) hx hb dX8_init_136 (by decide) ?_
  refine va_iast (D := D) hx hb hK hP hD hS 1 0 rfl rfl (by unfold vp_in; decide) dX8_init_137 (fun H locs hP hD hS => ?_)
  have hP : va_P D vwCl ((h0, .inr (8, [.ref q0, .ref q1, .ref q2, .int 0, .ref q3, .int 0, .ref q4, .int 0, .ref q5, .ref q6, .int 0, .ref q7, .ref q8, .ref q9, .ref q10, .ref q11])) :: (q0, .inl (cs 0, 118, .inl (upd (fun _ => 0) (0 : Int32).toNatClampNeg (4)))) :: (q1, cnI cs 118) :: (q2, cnI cs 118) :: (q3, cnI cs 100) :: (q4, cnI cs 12) :: (q5, cnI cs 4096) :: (q6, cnI cs 1024) :: (q7, cnI cs 4096) :: (q8, .inl (cs 0, 6, .inl (upd (upd (upd (upd (upd (upd (fun _ => 0) (0 : Int32).toNatClampNeg (-1)) (1 : Int32).toNatClampNeg (-1)) (2 : Int32).toNatClampNeg (-1)) (3 : Int32).toNatClampNeg (-1)) (4 : Int32).toNatClampNeg (-1)) (5 : Int32).toNatClampNeg (-1)))) :: (q9, cnI cs 6) :: (q10, .inl (cs 4, 6, .inr (.inr (.inr (.inr (cnGF q10)))))) :: (q10 + 1, cnL cs 60) :: (q10 + 2, cnL cs 60) :: (q10 + 3, cnL cs 60) :: (q10 + 4, cnL cs 60) :: (q10 + 5, cnL cs 60) :: (q10 + 6, cnL cs 60) :: (q11, cnL cs 60) :: []) H := hP
  have hD : va_D A ((h0, .inr (8, [.ref q0, .ref q1, .ref q2, .int 0, .ref q3, .int 0, .ref q4, .int 0, .ref q5, .ref q6, .int 0, .ref q7, .ref q8, .ref q9, .ref q10, .ref q11])) :: (q0, .inl (cs 0, 118, .inl (upd (fun _ => 0) (0 : Int32).toNatClampNeg (4)))) :: (q1, cnI cs 118) :: (q2, cnI cs 118) :: (q3, cnI cs 100) :: (q4, cnI cs 12) :: (q5, cnI cs 4096) :: (q6, cnI cs 1024) :: (q7, cnI cs 4096) :: (q8, .inl (cs 0, 6, .inl (upd (upd (upd (upd (upd (upd (fun _ => 0) (0 : Int32).toNatClampNeg (-1)) (1 : Int32).toNatClampNeg (-1)) (2 : Int32).toNatClampNeg (-1)) (3 : Int32).toNatClampNeg (-1)) (4 : Int32).toNatClampNeg (-1)) (5 : Int32).toNatClampNeg (-1)))) :: (q9, cnI cs 6) :: (q10, .inl (cs 4, 6, .inr (.inr (.inr (.inr (cnGF q10)))))) :: (q10 + 1, cnL cs 60) :: (q10 + 2, cnL cs 60) :: (q10 + 3, cnL cs 60) :: (q10 + 4, cnL cs 60) :: (q10 + 5, cnL cs 60) :: (q10 + 6, cnL cs 60) :: (q11, cnL cs 60) :: []) := hD
  refine lv_aload_n hx hb dX8_init_138 rfl (lv_at hl 0 rfl) ?_
  refine va_get (D := D) (ci := 8) (v := .ref q0) (C := RX8) (T := TX8) (N := 16) hx hb hts qcw_8 hown hK hP 0 rfl rfl 0 (by decide) (hts _ (cnW _ (List.mem_of_getElem? (i := 66) rfl))) (fun _ h9 => h9) rfl dX8_init_139 ?_
  refine lv_iconst (v := 1) hx hb dX8_init_142 (by decide) ?_
  refine lv_iconst (v := 4) hx hb dX8_init_143 (by decide) ?_
  refine va_iast (D := D) hx hb hK hP hD hS 1 0 rfl rfl (by unfold vp_in; decide) dX8_init_144 (fun H locs hP hD hS => ?_)
  have hP : va_P D vwCl ((h0, .inr (8, [.ref q0, .ref q1, .ref q2, .int 0, .ref q3, .int 0, .ref q4, .int 0, .ref q5, .ref q6, .int 0, .ref q7, .ref q8, .ref q9, .ref q10, .ref q11])) :: (q0, .inl (cs 0, 118, .inl (upd (upd (fun _ => 0) (0 : Int32).toNatClampNeg (4)) (1 : Int32).toNatClampNeg (4)))) :: (q1, cnI cs 118) :: (q2, cnI cs 118) :: (q3, cnI cs 100) :: (q4, cnI cs 12) :: (q5, cnI cs 4096) :: (q6, cnI cs 1024) :: (q7, cnI cs 4096) :: (q8, .inl (cs 0, 6, .inl (upd (upd (upd (upd (upd (upd (fun _ => 0) (0 : Int32).toNatClampNeg (-1)) (1 : Int32).toNatClampNeg (-1)) (2 : Int32).toNatClampNeg (-1)) (3 : Int32).toNatClampNeg (-1)) (4 : Int32).toNatClampNeg (-1)) (5 : Int32).toNatClampNeg (-1)))) :: (q9, cnI cs 6) :: (q10, .inl (cs 4, 6, .inr (.inr (.inr (.inr (cnGF q10)))))) :: (q10 + 1, cnL cs 60) :: (q10 + 2, cnL cs 60) :: (q10 + 3, cnL cs 60) :: (q10 + 4, cnL cs 60) :: (q10 + 5, cnL cs 60) :: (q10 + 6, cnL cs 60) :: (q11, cnL cs 60) :: []) H := hP
  have hD : va_D A ((h0, .inr (8, [.ref q0, .ref q1, .ref q2, .int 0, .ref q3, .int 0, .ref q4, .int 0, .ref q5, .ref q6, .int 0, .ref q7, .ref q8, .ref q9, .ref q10, .ref q11])) :: (q0, .inl (cs 0, 118, .inl (upd (upd (fun _ => 0) (0 : Int32).toNatClampNeg (4)) (1 : Int32).toNatClampNeg (4)))) :: (q1, cnI cs 118) :: (q2, cnI cs 118) :: (q3, cnI cs 100) :: (q4, cnI cs 12) :: (q5, cnI cs 4096) :: (q6, cnI cs 1024) :: (q7, cnI cs 4096) :: (q8, .inl (cs 0, 6, .inl (upd (upd (upd (upd (upd (upd (fun _ => 0) (0 : Int32).toNatClampNeg (-1)) (1 : Int32).toNatClampNeg (-1)) (2 : Int32).toNatClampNeg (-1)) (3 : Int32).toNatClampNeg (-1)) (4 : Int32).toNatClampNeg (-1)) (5 : Int32).toNatClampNeg (-1)))) :: (q9, cnI cs 6) :: (q10, .inl (cs 4, 6, .inr (.inr (.inr (.inr (cnGF q10)))))) :: (q10 + 1, cnL cs 60) :: (q10 + 2, cnL cs 60) :: (q10 + 3, cnL cs 60) :: (q10 + 4, cnL cs 60) :: (q10 + 5, cnL cs 60) :: (q10 + 6, cnL cs 60) :: (q11, cnL cs 60) :: []) := hD
  exact W.vret hx hb hr (fun t ht hW => ⟨⟨(), rfl, trivial, cw_X8 cs h0 q0 q1 q2 q3 q4 q5 q6 q7 q8 q9 q10 q11, ⟨q0, q1, q2, q3, q4, q5, q6, q7, q8, q9, q10, q11, rfl⟩, by rw [ht]; exact hP, by rw [hAe]; exact hD⟩, hS.F ht⟩) hS.2.2 dX8_init_145
