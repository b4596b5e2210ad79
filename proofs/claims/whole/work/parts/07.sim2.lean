section
variable {p : Program} {l : Launch} {e : Env} {Rm : Room} {s : State} {m : MethodId} {args : Array Value} {below : List Frame} {meth : Method} {c : Code} {cells slots : Nat} {Q : State → Prop} {α : Nat → Nat} {cs : Nat → ClassId} {D : va_G} {base nL : Nat} {LS : List Nat} {ro : Nat → qC} {cc : ByteArray} {pc : Nat}
variable {C : Nat → List qV → qH → qR → Prop} {J : Nat → qL → List qV → qH → Prop} {R : qR} {K : qL → List qV → qH → Prop} {a b : Nat} {L : List Nat} {ls : qL} {st : List qV} {h : qH}
theorem gs_iconst (hx : p.tables.exec = Jvm.exec) (hb : c.code = cc) {pc : Nat} {n : Int} (hdg : decode cc pc = .ok (.iconst n, 1)) (hq : qI C J R K (.iconst n) a b L ls st h) (hK : ∀ ls st h, K ls st h → qG p l e Rm s m args below meth c cells slots Q α cs D base nL LS ro (pc + 1) ls st h) : qG p l e Rm s m args below meth c cells slots Q α cs D base nL LS ro pc ls st h := by
  intro H locs lsR hP hD hS hl hn hL hr
  have k := hK _ _ _ hq H locs lsR hP hD hS hl hn hL hr
  refine lv_iconst (v := Int32.ofInt n) hx hb hdg rfl ?_
  simpa only [List.map_cons, qtv] using k
theorem gs_bipush (hx : p.tables.exec = Jvm.exec) (hb : c.code = cc) {pc : Nat} {n : Int} (hdg : decode cc pc = .ok (.bipush n, 2)) (hn0 : -128 ≤ n ∧ n ≤ 127) (hq : qI C J R K (.bipush n) a b L ls st h) (hK : ∀ ls st h, K ls st h → qG p l e Rm s m args below meth c cells slots Q α cs D base nL LS ro (pc + 2) ls st h) : qG p l e Rm s m args below meth c cells slots Q α cs D base nL LS ro pc ls st h := by
  intro H locs lsR hP hD hS hl hn hL hr
  have k := hK _ _ _ hq H locs lsR hP hD hS hl hn hL hr
  refine lv_bipush (v := Int32.ofInt n) hx hb hdg (z_b hn0) ?_
  simpa only [List.map_cons, qtv] using k
theorem gs_sipush (hx : p.tables.exec = Jvm.exec) (hb : c.code = cc) {pc : Nat} {n : Int} (hdg : decode cc pc = .ok (.sipush n, 3)) (hn0 : -32768 ≤ n ∧ n ≤ 32767) (hq : qI C J R K (.sipush n) a b L ls st h) (hK : ∀ ls st h, K ls st h → qG p l e Rm s m args below meth c cells slots Q α cs D base nL LS ro (pc + 3) ls st h) : qG p l e Rm s m args below meth c cells slots Q α cs D base nL LS ro pc ls st h := by
  intro H locs lsR hP hD hS hl hn hL hr
  have k := hK _ _ _ hq H locs lsR hP hD hS hl hn hL hr
  refine lv_sipush (v := Int32.ofInt n) hx hb hdg (z_s hn0) ?_
  simpa only [List.map_cons, qtv] using k
theorem gs_lconst (hx : p.tables.exec = Jvm.exec) (hb : c.code = cc) {pc : Nat} {n : Fin 2} (hdg : decode cc pc = .ok (.lconst n, 1)) (hq : qI C J R K (.lconst n) a b L ls st h) (hK : ∀ ls st h, K ls st h → qG p l e Rm s m args below meth c cells slots Q α cs D base nL LS ro (pc + 1) ls st h) : qG p l e Rm s m args below meth c cells slots Q α cs D base nL LS ro pc ls st h := by
  intro H locs lsR hP hD hS hl hn hL hr
  have k := hK _ _ _ hq H locs lsR hP hD hS hl hn hL hr
  refine lv_lconst (v := Int64.ofNat n.val) hx hb hdg rfl ?_
  simpa only [List.map_cons, qtv] using k
theorem gs_iadd (hx : p.tables.exec = Jvm.exec) (hb : c.code = cc) {pc : Nat} (hdg : decode cc pc = .ok (.iadd, 1)) (hq : qI C J R K (.iadd) a b L ls st h) (hK : ∀ ls st h, K ls st h → qG p l e Rm s m args below meth c cells slots Q α cs D base nL LS ro (pc + 1) ls st h) : qG p l e Rm s m args below meth c cells slots Q α cs D base nL LS ro pc ls st h := by
  obtain ⟨x, y, r, rfl, hq⟩ := q2i_o hq
  intro H locs lsR hP hD hS hl hn hL hr
  have k := hK _ _ _ hq H locs lsR hP hD hS hl hn hL hr
  refine lv_iadd hx hb hdg ?_
  simpa only [List.map_cons, qtv, Int32.ofInt_add] using k
theorem gs_isub (hx : p.tables.exec = Jvm.exec) (hb : c.code = cc) {pc : Nat} (hdg : decode cc pc = .ok (.isub, 1)) (hq : qI C J R K (.isub) a b L ls st h) (hK : ∀ ls st h, K ls st h → qG p l e Rm s m args below meth c cells slots Q α cs D base nL LS ro (pc + 1) ls st h) : qG p l e Rm s m args below meth c cells slots Q α cs D base nL LS ro pc ls st h := by
  obtain ⟨x, y, r, rfl, hq⟩ := q2i_o hq
  intro H locs lsR hP hD hS hl hn hL hr
  have k := hK _ _ _ hq H locs lsR hP hD hS hl hn hL hr
  refine lv_isub hx hb hdg ?_
  simpa only [List.map_cons, qtv, Int32.ofInt_sub] using k
theorem gs_imul (hx : p.tables.exec = Jvm.exec) (hb : c.code = cc) {pc : Nat} (hdg : decode cc pc = .ok (.imul, 1)) (hq : qI C J R K (.imul) a b L ls st h) (hK : ∀ ls st h, K ls st h → qG p l e Rm s m args below meth c cells slots Q α cs D base nL LS ro (pc + 1) ls st h) : qG p l e Rm s m args below meth c cells slots Q α cs D base nL LS ro pc ls st h := by
  obtain ⟨x, y, r, rfl, hq⟩ := q2i_o hq
  intro H locs lsR hP hD hS hl hn hL hr
  have k := hK _ _ _ hq H locs lsR hP hD hS hl hn hL hr
  refine lv_imul hx hb hdg ?_
  simpa only [List.map_cons, qtv, Int32.ofInt_mul] using k
theorem gs_idiv (hx : p.tables.exec = Jvm.exec) (hb : c.code = cc) {pc : Nat} (hdg : decode cc pc = .ok (.idiv, 1)) (hq : qI C J R K (.idiv) a b L ls st h) (hK : ∀ ls st h, K ls st h → qG p l e Rm s m args below meth c cells slots Q α cs D base nL LS ro (pc + 1) ls st h) : qG p l e Rm s m args below meth c cells slots Q α cs D base nL LS ro pc ls st h := by
  obtain ⟨x, y, r, rfl, h1, h2, h3, hq⟩ := q2i_o hq
  intro H locs lsR hP hD hS hl hn hL hr
  have k := hK _ _ _ hq H locs lsR hP hD hS hl hn hL hr
  refine lv_idiv hx hb hdg (z_ne0 h2 h3) ?_
  rw [z_div h1 h2]
  simpa only [List.map_cons, qtv] using k
theorem gs_irem (hx : p.tables.exec = Jvm.exec) (hb : c.code = cc) {pc : Nat} (hdg : decode cc pc = .ok (.irem, 1)) (hq : qI C J R K (.irem) a b L ls st h) (hK : ∀ ls st h, K ls st h → qG p l e Rm s m args below meth c cells slots Q α cs D base nL LS ro (pc + 1) ls st h) : qG p l e Rm s m args below meth c cells slots Q α cs D base nL LS ro pc ls st h := by
  obtain ⟨x, y, r, rfl, h1, h2, h3, hq⟩ := q2i_o hq
  intro H locs lsR hP hD hS hl hn hL hr
  have k := hK _ _ _ hq H locs lsR hP hD hS hl hn hL hr
  refine lv_irem hx hb hdg (z_ne0 h2 h3) ?_
  rw [z_rem h1 h2]
  simpa only [List.map_cons, qtv] using k
theorem gs_iand (hx : p.tables.exec = Jvm.exec) (hb : c.code = cc) {pc : Nat} (hdg : decode cc pc = .ok (.iand, 1)) (hq : qI C J R K (.iand) a b L ls st h) (hK : ∀ ls st h, K ls st h → qG p l e Rm s m args below meth c cells slots Q α cs D base nL LS ro (pc + 1) ls st h) : qG p l e Rm s m args below meth c cells slots Q α cs D base nL LS ro pc ls st h := by
  obtain ⟨x, y, r, rfl, hq⟩ := q2i_o hq
  intro H locs lsR hP hD hS hl hn hL hr
  have k := hK _ _ _ hq H locs lsR hP hD hS hl hn hL hr
  refine lv_iand hx hb hdg ?_
  simpa only [List.map_cons, qtv, qand, z_r] using k
theorem gs_ior (hx : p.tables.exec = Jvm.exec) (hb : c.code = cc) {pc : Nat} (hdg : decode cc pc = .ok (.ior, 1)) (hq : qI C J R K (.ior) a b L ls st h) (hK : ∀ ls st h, K ls st h → qG p l e Rm s m args below meth c cells slots Q α cs D base nL LS ro (pc + 1) ls st h) : qG p l e Rm s m args below meth c cells slots Q α cs D base nL LS ro pc ls st h := by
  obtain ⟨x, y, r, rfl, hq⟩ := q2i_o hq
  intro H locs lsR hP hD hS hl hn hL hr
  have k := hK _ _ _ hq H locs lsR hP hD hS hl hn hL hr
  refine lv_ior hx hb hdg ?_
  simpa only [List.map_cons, qtv, qor, z_r] using k
theorem gs_ishl (hx : p.tables.exec = Jvm.exec) (hb : c.code = cc) {pc : Nat} (hdg : decode cc pc = .ok (.ishl, 1)) (hq : qI C J R K (.ishl) a b L ls st h) (hK : ∀ ls st h, K ls st h → qG p l e Rm s m args below meth c cells slots Q α cs D base nL LS ro (pc + 1) ls st h) : qG p l e Rm s m args below meth c cells slots Q α cs D base nL LS ro pc ls st h := by
  obtain ⟨x, y, r, rfl, hq⟩ := q2i_o hq
  intro H locs lsR hP hD hS hl hn hL hr
  have k := hK _ _ _ hq H locs lsR hP hD hS hl hn hL hr
  refine lv_ishl hx hb hdg ?_
  simpa only [List.map_cons, qtv, qshl, z_r] using k
theorem gs_ishr (hx : p.tables.exec = Jvm.exec) (hb : c.code = cc) {pc : Nat} (hdg : decode cc pc = .ok (.ishr, 1)) (hq : qI C J R K (.ishr) a b L ls st h) (hK : ∀ ls st h, K ls st h → qG p l e Rm s m args below meth c cells slots Q α cs D base nL LS ro (pc + 1) ls st h) : qG p l e Rm s m args below meth c cells slots Q α cs D base nL LS ro pc ls st h := by
  obtain ⟨x, y, r, rfl, hq⟩ := q2i_o hq
  intro H locs lsR hP hD hS hl hn hL hr
  have k := hK _ _ _ hq H locs lsR hP hD hS hl hn hL hr
  refine lv_ishr hx hb hdg ?_
  simpa only [List.map_cons, qtv, qshr, z_r] using k
theorem gs_iushr (hx : p.tables.exec = Jvm.exec) (hb : c.code = cc) {pc : Nat} (hdg : decode cc pc = .ok (.iushr, 1)) (hq : qI C J R K (.iushr) a b L ls st h) (hK : ∀ ls st h, K ls st h → qG p l e Rm s m args below meth c cells slots Q α cs D base nL LS ro (pc + 1) ls st h) : qG p l e Rm s m args below meth c cells slots Q α cs D base nL LS ro pc ls st h := by
  obtain ⟨x, y, r, rfl, hq⟩ := q2i_o hq
  intro H locs lsR hP hD hS hl hn hL hr
  have k := hK _ _ _ hq H locs lsR hP hD hS hl hn hL hr
  refine lv_iushr hx hb hdg (z_r _).symm ?_
  simpa only [List.map_cons, qtv, qushr] using k
theorem gs_i2l (hx : p.tables.exec = Jvm.exec) (hb : c.code = cc) {pc : Nat} (hdg : decode cc pc = .ok (.i2l, 1)) (hq : qI C J R K (.i2l) a b L ls st h) (hK : ∀ ls st h, K ls st h → qG p l e Rm s m args below meth c cells slots Q α cs D base nL LS ro (pc + 1) ls st h) : qG p l e Rm s m args below meth c cells slots Q α cs D base nL LS ro pc ls st h := by
  obtain ⟨x, r, rfl, h1, hq⟩ := q1i_o hq
  intro H locs lsR hP hD hS hl hn hL hr
  have k := hK _ _ _ hq H locs lsR hP hD hS hl hn hL hr
  refine lv_i2l hx hb hdg (z_l h1) ?_
  simpa only [List.map_cons, qtv] using k
theorem gs_i2b (hx : p.tables.exec = Jvm.exec) (hb : c.code = cc) {pc : Nat} (hdg : decode cc pc = .ok (.i2b, 1)) (hq : qI C J R K (.i2b) a b L ls st h) (hK : ∀ ls st h, K ls st h → qG p l e Rm s m args below meth c cells slots Q α cs D base nL LS ro (pc + 1) ls st h) : qG p l e Rm s m args below meth c cells slots Q α cs D base nL LS ro pc ls st h := by
  obtain ⟨x, r, rfl, hq⟩ := q1i_o hq
  intro H locs lsR hP hD hS hl hn hL hr
  have k := hK _ _ _ hq H locs lsR hP hD hS hl hn hL hr
  refine lv_i2b hx hb hdg (z_r _).symm ?_
  simpa only [List.map_cons, qtv, qi2b] using k
theorem gs_i2s (hx : p.tables.exec = Jvm.exec) (hb : c.code = cc) {pc : Nat} (hdg : decode cc pc = .ok (.i2s, 1)) (hq : qI C J R K (.i2s) a b L ls st h) (hK : ∀ ls st h, K ls st h → qG p l e Rm s m args below meth c cells slots Q α cs D base nL LS ro (pc + 1) ls st h) : qG p l e Rm s m args below meth c cells slots Q α cs D base nL LS ro pc ls st h := by
  obtain ⟨x, r, rfl, hq⟩ := q1i_o hq
  intro H locs lsR hP hD hS hl hn hL hr
  have k := hK _ _ _ hq H locs lsR hP hD hS hl hn hL hr
  refine lv_i2s hx hb hdg (z_r _).symm ?_
  simpa only [List.map_cons, qtv, qi2s] using k
theorem gs_i2c (hx : p.tables.exec = Jvm.exec) (hb : c.code = cc) {pc : Nat} (hdg : decode cc pc = .ok (.i2c, 1)) (hq : qI C J R K (.i2c) a b L ls st h) (hK : ∀ ls st h, K ls st h → qG p l e Rm s m args below meth c cells slots Q α cs D base nL LS ro (pc + 1) ls st h) : qG p l e Rm s m args below meth c cells slots Q α cs D base nL LS ro pc ls st h := by
  obtain ⟨x, r, rfl, hq⟩ := q1i_o hq
  intro H locs lsR hP hD hS hl hn hL hr
  have k := hK _ _ _ hq H locs lsR hP hD hS hl hn hL hr
  refine lv_i2c hx hb hdg (z_r _).symm ?_
  simpa only [List.map_cons, qtv, qi2c] using k
theorem gs_l2i (hx : p.tables.exec = Jvm.exec) (hb : c.code = cc) {pc : Nat} (hdg : decode cc pc = .ok (.l2i, 1)) (hq : qI C J R K (.l2i) a b L ls st h) (hK : ∀ ls st h, K ls st h → qG p l e Rm s m args below meth c cells slots Q α cs D base nL LS ro (pc + 1) ls st h) : qG p l e Rm s m args below meth c cells slots Q α cs D base nL LS ro pc ls st h := by
  obtain ⟨x, r, rfl, hq⟩ := q1l_o hq
  intro H locs lsR hP hD hS hl hn hL hr
  have k := hK _ _ _ hq H locs lsR hP hD hS hl hn hL hr
  refine lv_l2i hx hb hdg (z_r _).symm ?_
  simpa only [List.map_cons, qtv] using k
theorem gs_ladd (hx : p.tables.exec = Jvm.exec) (hb : c.code = cc) {pc : Nat} (hdg : decode cc pc = .ok (.ladd, 1)) (hq : qI C J R K (.ladd) a b L ls st h) (hK : ∀ ls st h, K ls st h → qG p l e Rm s m args below meth c cells slots Q α cs D base nL LS ro (pc + 1) ls st h) : qG p l e Rm s m args below meth c cells slots Q α cs D base nL LS ro pc ls st h := by
  obtain ⟨x, y, r, rfl, hq⟩ := q2l_o hq
  intro H locs lsR hP hD hS hl hn hL hr
  have k := hK _ _ _ hq H locs lsR hP hD hS hl hn hL hr
  refine lv_ladd hx hb hdg ?_
  simpa only [List.map_cons, qtv] using k
theorem gs_lsub (hx : p.tables.exec = Jvm.exec) (hb : c.code = cc) {pc : Nat} (hdg : decode cc pc = .ok (.lsub, 1)) (hq : qI C J R K (.lsub) a b L ls st h) (hK : ∀ ls st h, K ls st h → qG p l e Rm s m args below meth c cells slots Q α cs D base nL LS ro (pc + 1) ls st h) : qG p l e Rm s m args below meth c cells slots Q α cs D base nL LS ro pc ls st h := by
  obtain ⟨x, y, r, rfl, hq⟩ := q2l_o hq
  intro H locs lsR hP hD hS hl hn hL hr
  have k := hK _ _ _ hq H locs lsR hP hD hS hl hn hL hr
  refine lv_lsub hx hb hdg ?_
  simpa only [List.map_cons, qtv] using k
theorem gs_lmul (hx : p.tables.exec = Jvm.exec) (hb : c.code = cc) {pc : Nat} (hdg : decode cc pc = .ok (.lmul, 1)) (hq : qI C J R K (.lmul) a b L ls st h) (hK : ∀ ls st h, K ls st h → qG p l e Rm s m args below meth c cells slots Q α cs D base nL LS ro (pc + 1) ls st h) : qG p l e Rm s m args below meth c cells slots Q α cs D base nL LS ro pc ls st h := by
  obtain ⟨x, y, r, rfl, hq⟩ := q2l_o hq
  intro H locs lsR hP hD hS hl hn hL hr
  have k := hK _ _ _ hq H locs lsR hP hD hS hl hn hL hr
  refine lv_lmul hx hb hdg ?_
  simpa only [List.map_cons, qtv] using k
theorem gs_land (hx : p.tables.exec = Jvm.exec) (hb : c.code = cc) {pc : Nat} (hdg : decode cc pc = .ok (.land, 1)) (hq : qI C J R K (.land) a b L ls st h) (hK : ∀ ls st h, K ls st h → qG p l e Rm s m args below meth c cells slots Q α cs D base nL LS ro (pc + 1) ls st h) : qG p l e Rm s m args below meth c cells slots Q α cs D base nL LS ro pc ls st h := by
  obtain ⟨x, y, r, rfl, hq⟩ := q2l_o hq
  intro H locs lsR hP hD hS hl hn hL hr
  have k := hK _ _ _ hq H locs lsR hP hD hS hl hn hL hr
  refine lv_land hx hb hdg ?_
  simpa only [List.map_cons, qtv] using k
theorem gs_lor (hx : p.tables.exec = Jvm.exec) (hb : c.code = cc) {pc : Nat} (hdg : decode cc pc = .ok (.lor, 1)) (hq : qI C J R K (.lor) a b L ls st h) (hK : ∀ ls st h, K ls st h → qG p l e Rm s m args below meth c cells slots Q α cs D base nL LS ro (pc + 1) ls st h) : qG p l e Rm s m args below meth c cells slots Q α cs D base nL LS ro pc ls st h := by
  obtain ⟨x, y, r, rfl, hq⟩ := q2l_o hq
  intro H locs lsR hP hD hS hl hn hL hr
  have k := hK _ _ _ hq H locs lsR hP hD hS hl hn hL hr
  refine lv_lor hx hb hdg ?_
  simpa only [List.map_cons, qtv] using k
theorem gs_ldiv (hx : p.tables.exec = Jvm.exec) (hb : c.code = cc) {pc : Nat} (hdg : decode cc pc = .ok (.ldiv, 1)) (hq : qI C J R K (.ldiv) a b L ls st h) (hK : ∀ ls st h, K ls st h → qG p l e Rm s m args below meth c cells slots Q α cs D base nL LS ro (pc + 1) ls st h) : qG p l e Rm s m args below meth c cells slots Q α cs D base nL LS ro pc ls st h := by
  obtain ⟨x, y, r, rfl, h3, hq⟩ := q2l_o hq
  intro H locs lsR hP hD hS hl hn hL hr
  have k := hK _ _ _ hq H locs lsR hP hD hS hl hn hL hr
  refine lv_ldiv hx hb hdg h3 ?_
  simpa only [List.map_cons, qtv] using k
theorem gs_lrem (hx : p.tables.exec = Jvm.exec) (hb : c.code = cc) {pc : Nat} (hdg : decode cc pc = .ok (.lrem, 1)) (hq : qI C J R K (.lrem) a b L ls st h) (hK : ∀ ls st h, K ls st h → qG p l e Rm s m args below meth c cells slots Q α cs D base nL LS ro (pc + 1) ls st h) : qG p l e Rm s m args below meth c cells slots Q α cs D base nL LS ro pc ls st h := by
  obtain ⟨x, y, r, rfl, h3, hq⟩ := q2l_o hq
  intro H locs lsR hP hD hS hl hn hL hr
  have k := hK _ _ _ hq H locs lsR hP hD hS hl hn hL hr
  refine lv_lrem hx hb hdg h3 ?_
  simpa only [List.map_cons, qtv] using k
theorem gs_lshl (hx : p.tables.exec = Jvm.exec) (hb : c.code = cc) {pc : Nat} (hdg : decode cc pc = .ok (.lshl, 1)) (hq : qI C J R K (.lshl) a b L ls st h) (hK : ∀ ls st h, K ls st h → qG p l e Rm s m args below meth c cells slots Q α cs D base nL LS ro (pc + 1) ls st h) : qG p l e Rm s m args below meth c cells slots Q α cs D base nL LS ro pc ls st h := by
  obtain ⟨x, y, r, rfl, hq⟩ := qli_o hq
  intro H locs lsR hP hD hS hl hn hL hr
  have k := hK _ _ _ hq H locs lsR hP hD hS hl hn hL hr
  refine lv_lshl hx hb hdg rfl ?_
  simpa only [List.map_cons, qtv, qlshl] using k
theorem gs_lushr (hx : p.tables.exec = Jvm.exec) (hb : c.code = cc) {pc : Nat} (hdg : decode cc pc = .ok (.lushr, 1)) (hq : qI C J R K (.lushr) a b L ls st h) (hK : ∀ ls st h, K ls st h → qG p l e Rm s m args below meth c cells slots Q α cs D base nL LS ro (pc + 1) ls st h) : qG p l e Rm s m args below meth c cells slots Q α cs D base nL LS ro pc ls st h := by
  obtain ⟨x, y, r, rfl, hq⟩ := qli_o hq
  intro H locs lsR hP hD hS hl hn hL hr
  have k := hK _ _ _ hq H locs lsR hP hD hS hl hn hL hr
  refine lv_lushr hx hb hdg rfl ?_
  simpa only [List.map_cons, qtv, qlushr] using k
theorem gs_lcmp (hx : p.tables.exec = Jvm.exec) (hb : c.code = cc) {pc : Nat} (hdg : decode cc pc = .ok (.lcmp, 1)) (hq : qI C J R K (.lcmp) a b L ls st h) (hK : ∀ ls st h, K ls st h → qG p l e Rm s m args below meth c cells slots Q α cs D base nL LS ro (pc + 1) ls st h) : qG p l e Rm s m args below meth c cells slots Q α cs D base nL LS ro pc ls st h := by
  obtain ⟨x, y, r, rfl, hq⟩ := q2l_o hq
  intro H locs lsR hP hD hS hl hn hL hr
  have k := hK _ _ _ hq H locs lsR hP hD hS hl hn hL hr
  refine W.lcmp hx hb hdg ?_
  rw [z_lcmp]; simpa only [List.map_cons, qtv] using k
theorem gs_dup (hx : p.tables.exec = Jvm.exec) (hb : c.code = cc) {pc : Nat} (hdg : decode cc pc = .ok (.dup, 1)) (hq : qI C J R K (.dup) a b L ls st h) (hK : ∀ ls st h, K ls st h → qG p l e Rm s m args below meth c cells slots Q α cs D base nL LS ro (pc + 1) ls st h) : qG p l e Rm s m args below meth c cells slots Q α cs D base nL LS ro pc ls st h := by
  obtain ⟨v, r, rfl, h1, hq⟩ := q1v_o hq
  intro H locs lsR hP hD hS hl hn hL hr
  have k := hK _ _ _ hq H locs lsR hP hD hS hl hn hL hr
  exact lv_dup hx hb hdg (by rw [qcat_t]; exact h1) k
theorem gs_pop (hx : p.tables.exec = Jvm.exec) (hb : c.code = cc) {pc : Nat} (hdg : decode cc pc = .ok (.pop, 1)) (hq : qI C J R K (.pop) a b L ls st h) (hK : ∀ ls st h, K ls st h → qG p l e Rm s m args below meth c cells slots Q α cs D base nL LS ro (pc + 1) ls st h) : qG p l e Rm s m args below meth c cells slots Q α cs D base nL LS ro pc ls st h := by
  obtain ⟨v, r, rfl, h1, hq⟩ := q1v_o hq
  intro H locs lsR hP hD hS hl hn hL hr
  have k := hK _ _ _ hq H locs lsR hP hD hS hl hn hL hr
  exact lv_pop hx hb hdg (by rw [qcat_t]; exact h1) k
theorem gs_dup2 (hx : p.tables.exec = Jvm.exec) (hb : c.code = cc) {pc : Nat} (hdg : decode cc pc = .ok (.dup2, 1)) (hq : qI C J R K (.dup2) a b L ls st h) (hK : ∀ ls st h, K ls st h → qG p l e Rm s m args below meth c cells slots Q α cs D base nL LS ro (pc + 1) ls st h) : qG p l e Rm s m args below meth c cells slots Q α cs D base nL LS ro pc ls st h := by
  obtain ⟨v, w, r, rfl, h1, h2, hq⟩ := q2v_o hq
  intro H locs lsR hP hD hS hl hn hL hr
  have k := hK _ _ _ hq H locs lsR hP hD hS hl hn hL hr
  exact lv_dup2_11 hx hb hdg (by rw [qcat_t]; exact h1) (by rw [qcat_t]; exact h2) k
theorem gs_iload (hx : p.tables.exec = Jvm.exec) (hb : c.code = cc) {pc n : Nat} (hdg : decode cc pc = .ok (.iload n, 2)) (hq : qI C J R K (.iload n) a b L ls st h) (hK : ∀ ls st h, K ls st h → qG p l e Rm s m args below meth c cells slots Q α cs D base nL LS ro (pc + 2) ls st h) : qG p l e Rm s m args below meth c cells slots Q α cs D base nL LS ro pc ls st h := by
  obtain ⟨z, hz, hq⟩ := qil_o hq
  intro H locs lsR hP hD hS hl hn hL hr
  have k := hK _ _ _ hq H locs lsR hP hD hS hl hn hL hr
  exact lv_iload hx hb hdg (qlv_at hl hz) k
theorem gs_iload_n (hx : p.tables.exec = Jvm.exec) (hb : c.code = cc) {pc : Nat} {n : Fin 4} (hdg : decode cc pc = .ok (.iload_n n, 1)) (hq : qI C J R K (.iload_n n) a b L ls st h) (hK : ∀ ls st h, K ls st h → qG p l e Rm s m args below meth c cells slots Q α cs D base nL LS ro (pc + 1) ls st h) : qG p l e Rm s m args below meth c cells slots Q α cs D base nL LS ro pc ls st h := by
  obtain ⟨z, hz, hq⟩ := qil_o hq
  intro H locs lsR hP hD hS hl hn hL hr
  have k := hK _ _ _ hq H locs lsR hP hD hS hl hn hL hr
  exact lv_iload_n hx hb hdg rfl (qlv_at hl hz) k
theorem gs_lload (hx : p.tables.exec = Jvm.exec) (hb : c.code = cc) {pc n : Nat} (hdg : decode cc pc = .ok (.lload n, 2)) (hq : qI C J R K (.lload n) a b L ls st h) (hK : ∀ ls st h, K ls st h → qG p l e Rm s m args below meth c cells slots Q α cs D base nL LS ro (pc + 2) ls st h) : qG p l e Rm s m args below meth c cells slots Q α cs D base nL LS ro pc ls st h := by
  obtain ⟨z, hz, hq⟩ := qll_o hq
  intro H locs lsR hP hD hS hl hn hL hr
  have k := hK _ _ _ hq H locs lsR hP hD hS hl hn hL hr
  exact lv_lload hx hb hdg (qlv_at hl hz) k
theorem gs_lload_n (hx : p.tables.exec = Jvm.exec) (hb : c.code = cc) {pc : Nat} {n : Fin 4} (hdg : decode cc pc = .ok (.lload_n n, 1)) (hq : qI C J R K (.lload_n n) a b L ls st h) (hK : ∀ ls st h, K ls st h → qG p l e Rm s m args below meth c cells slots Q α cs D base nL LS ro (pc + 1) ls st h) : qG p l e Rm s m args below meth c cells slots Q α cs D base nL LS ro pc ls st h := by
  obtain ⟨z, hz, hq⟩ := qll_o hq
  intro H locs lsR hP hD hS hl hn hL hr
  have k := hK _ _ _ hq H locs lsR hP hD hS hl hn hL hr
  exact lv_lload_n hx hb hdg rfl (qlv_at hl hz) k
theorem gs_aload (hx : p.tables.exec = Jvm.exec) (hb : c.code = cc) {pc n : Nat} (hdg : decode cc pc = .ok (.aload n, 2)) (hq : qI C J R K (.aload n) a b L ls st h) (hK : ∀ ls st h, K ls st h → qG p l e Rm s m args below meth c cells slots Q α cs D base nL LS ro (pc + 2) ls st h) : qG p l e Rm s m args below meth c cells slots Q α cs D base nL LS ro pc ls st h := by
  obtain ⟨z, hz, hq⟩ := qal_o hq
  intro H locs lsR hP hD hS hl hn hL hr
  have k := hK _ _ _ hq H locs lsR hP hD hS hl hn hL hr
  exact lv_aload hx hb hdg (qlv_at hl hz) k
theorem gs_aload_n (hx : p.tables.exec = Jvm.exec) (hb : c.code = cc) {pc : Nat} {n : Fin 4} (hdg : decode cc pc = .ok (.aload_n n, 1)) (hq : qI C J R K (.aload_n n) a b L ls st h) (hK : ∀ ls st h, K ls st h → qG p l e Rm s m args below meth c cells slots Q α cs D base nL LS ro (pc + 1) ls st h) : qG p l e Rm s m args below meth c cells slots Q α cs D base nL LS ro pc ls st h := by
  obtain ⟨z, hz, hq⟩ := qal_o hq
  intro H locs lsR hP hD hS hl hn hL hr
  have k := hK _ _ _ hq H locs lsR hP hD hS hl hn hL hr
  exact lv_aload_n hx hb hdg rfl (qlv_at hl hz) k
theorem gs_istore (hx : p.tables.exec = Jvm.exec) (hb : c.code = cc) {pc n : Nat} (hdg : decode cc pc = .ok (.istore n, 2)) (hnL : n < nL) (hfl : b ≠ 0 ∨ ∀ j ∈ LS, j + 1 ≠ n) (hq : qI C J R K (.istore n) a b L ls st h) (hK : ∀ ls st h, K ls st h → qG p l e Rm s m args below meth c cells slots Q α cs D base nL LS ro (pc + 2) ls st h) : qG p l e Rm s m args below meth c cells slots Q α cs D base nL LS ro pc ls st h := by
  obtain ⟨x, r, rfl, hq⟩ := q1i_o hq
  intro H locs lsR hP hD hS hl hn hL hr
  refine lv_istore hx hb hdg hl hnL rfl fun ls2 hl2 => ?_
  exact hK _ _ _ hq H locs ls2 hP hD hS (qlv_set hL hfl hl2 (by omega)) (by rw [qset_len]; exact hn) (qLS_set hL (by omega) (fun x h => by cases h)) hr
theorem gs_istore_n (hx : p.tables.exec = Jvm.exec) (hb : c.code = cc) {pc : Nat} {n : Fin 4} (hdg : decode cc pc = .ok (.istore_n n, 1)) (hnL : n.val < nL) (hfl : b ≠ 0 ∨ ∀ j ∈ LS, j + 1 ≠ n.val) (hq : qI C J R K (.istore_n n) a b L ls st h) (hK : ∀ ls st h, K ls st h → qG p l e Rm s m args below meth c cells slots Q α cs D base nL LS ro (pc + 1) ls st h) : qG p l e Rm s m args below meth c cells slots Q α cs D base nL LS ro pc ls st h := by
  obtain ⟨x, r, rfl, hq⟩ := q1i_o hq
  intro H locs lsR hP hD hS hl hn hL hr
  refine lv_istore_n hx hb hdg rfl hl hnL rfl fun ls2 hl2 => ?_
  exact hK _ _ _ hq H locs ls2 hP hD hS (qlv_set hL hfl hl2 (by omega)) (by rw [qset_len]; exact hn) (qLS_set hL (by omega) (fun x h => by cases h)) hr
theorem gs_astore (hx : p.tables.exec = Jvm.exec) (hb : c.code = cc) {pc n : Nat} (hdg : decode cc pc = .ok (.astore n, 2)) (hnL : n < nL) (hfl : b ≠ 0 ∨ ∀ j ∈ LS, j + 1 ≠ n) (hq : qI C J R K (.astore n) a b L ls st h) (hK : ∀ ls st h, K ls st h → qG p l e Rm s m args below meth c cells slots Q α cs D base nL LS ro (pc + 2) ls st h) : qG p l e Rm s m args below meth c cells slots Q α cs D base nL LS ro pc ls st h := by
  obtain ⟨x, r, rfl, hq⟩ := q1r_o hq
  intro H locs lsR hP hD hS hl hn hL hr
  refine lv_astore hx hb hdg hl hnL rfl fun ls2 hl2 => ?_
  exact hK _ _ _ hq H locs ls2 hP hD hS (qlv_set hL hfl hl2 (by omega)) (by rw [qset_len]; exact hn) (qLS_set hL (by omega) (fun x h => by cases h)) hr
theorem gs_astore_n (hx : p.tables.exec = Jvm.exec) (hb : c.code = cc) {pc : Nat} {n : Fin 4} (hdg : decode cc pc = .ok (.astore_n n, 1)) (hnL : n.val < nL) (hfl : b ≠ 0 ∨ ∀ j ∈ LS, j + 1 ≠ n.val) (hq : qI C J R K (.astore_n n) a b L ls st h) (hK : ∀ ls st h, K ls st h → qG p l e Rm s m args below meth c cells slots Q α cs D base nL LS ro (pc + 1) ls st h) : qG p l e Rm s m args below meth c cells slots Q α cs D base nL LS ro pc ls st h := by
  obtain ⟨x, r, rfl, hq⟩ := q1r_o hq
  intro H locs lsR hP hD hS hl hn hL hr
  refine lv_astore_n hx hb hdg rfl hl hnL rfl fun ls2 hl2 => ?_
  exact hK _ _ _ hq H locs ls2 hP hD hS (qlv_set hL hfl hl2 (by omega)) (by rw [qset_len]; exact hn) (qLS_set hL (by omega) (fun x h => by cases h)) hr
theorem gs_lstore (hx : p.tables.exec = Jvm.exec) (hb : c.code = cc) {pc n : Nat} (hdg : decode cc pc = .ok (.lstore n, 2)) (hnL : n + 1 < nL) (hin : n ∈ LS) (hfl : b ≠ 0 ∨ ∀ j ∈ LS, j + 1 ≠ n) (hq : qI C J R K (.lstore n) a b L ls st h) (hK : ∀ ls st h, K ls st h → qG p l e Rm s m args below meth c cells slots Q α cs D base nL LS ro (pc + 2) ls st h) : qG p l e Rm s m args below meth c cells slots Q α cs D base nL LS ro pc ls st h := by
  obtain ⟨x, r, rfl, hq⟩ := q1l_o hq
  intro H locs lsR hP hD hS hl hn hL hr
  refine lv_lstore hx hb hdg hl hnL rfl fun ls2 hl2 => ?_
  exact hK _ _ _ hq H locs ls2 hP hD hS (qlv_set2 hL hfl hl2 (by omega)) (by rw [qset2_len]; exact hn) (qLS_set2 hL hin) hr
theorem gs_lstore_n (hx : p.tables.exec = Jvm.exec) (hb : c.code = cc) {pc : Nat} {n : Fin 4} (hdg : decode cc pc = .ok (.lstore_n n, 1)) (hnL : n.val + 1 < nL) (hin : n.val ∈ LS) (hfl : b ≠ 0 ∨ ∀ j ∈ LS, j + 1 ≠ n.val) (hq : qI C J R K (.lstore_n n) a b L ls st h) (hK : ∀ ls st h, K ls st h → qG p l e Rm s m args below meth c cells slots Q α cs D base nL LS ro (pc + 1) ls st h) : qG p l e Rm s m args below meth c cells slots Q α cs D base nL LS ro pc ls st h := by
  obtain ⟨x, r, rfl, hq⟩ := q1l_o hq
  intro H locs lsR hP hD hS hl hn hL hr
  refine lv_lstore_n hx hb hdg rfl hl hnL rfl fun ls2 hl2 => ?_
  exact hK _ _ _ hq H locs ls2 hP hD hS (qlv_set2 hL hfl hl2 (by omega)) (by rw [qset2_len]; exact hn) (qLS_set2 hL hin) hr
theorem gs_iinc (hx : p.tables.exec = Jvm.exec) (hb : c.code = cc) {pc n : Nat} {z0 : Int} (hdg : decode cc pc = .ok (.iinc n z0, 3)) (hnL : n < nL) (hfl : b ≠ 0 ∨ ∀ j ∈ LS, j + 1 ≠ n) (hq : qI C J R K (.iinc n z0) a b L ls st h) (hK : ∀ ls st h, K ls st h → qG p l e Rm s m args below meth c cells slots Q α cs D base nL LS ro (pc + 3) ls st h) : qG p l e Rm s m args below meth c cells slots Q α cs D base nL LS ro pc ls st h := by
  obtain ⟨z, hz, hq⟩ := qil_o hq
  intro H locs lsR hP hD hS hl hn hL hr
  obtain ⟨k, hk⟩ := List.getElem?_of_mem (qlv_mem (α := α) (q := (n, .int (Int32.ofInt z))).mpr ⟨_, hz, rfl⟩)
  refine lv_iinc (v := Int32.ofInt (z + z0)) hx hb hdg hl hk (by rw [Int32.ofInt_add]) hnL rfl fun ls2 hl2 => ?_
  exact hK _ _ _ hq H locs ls2 hP hD hS (qlv_set hL hfl hl2 (by omega)) (by rw [qset_len]; exact hn) (qLS_set hL (by omega) (fun x h => by cases h)) hr
theorem gs_icmp_eq (hx : p.tables.exec = Jvm.exec) (hb : c.code = cc) {pc tgt : Nat} {off : Int} (hdg : decode cc pc = .ok (.if_icmp .eq off, 3)) (ht : (pc : Int) + off = (tgt : Int)) (hq : qI C J R K (.if_icmp .eq off) a b L ls st h) (hj : ∀ ls st h, J a ls st h → qG p l e Rm s m args below meth c cells slots Q α cs D base nL LS ro tgt ls st h) (hK : ∀ ls st h, K ls st h → qG p l e Rm s m args below meth c cells slots Q α cs D base nL LS ro (pc + 3) ls st h) : qG p l e Rm s m args below meth c cells slots Q α cs D base nL LS ro pc ls st h := by
  obtain ⟨x, y, r, rfl, h1, h2, h3, h4⟩ := q2i_o hq
  have hc : _ ↔ qcmp .eq x y := z_eq h1 h2
  intro H locs lsR hP hD hS hl hn hL hr
  refine lv_icmp_eq hx hb hdg ht (fun q => ?_) (fun q => ?_)
  · exact hj _ _ _ (h3 (hc.mp q)) H locs lsR hP hD hS hl hn hL hr
  · exact hK _ _ _ (h4 (fun q2 => q (hc.mpr q2))) H locs lsR hP hD hS hl hn hL hr
theorem gs_if_eq (hx : p.tables.exec = Jvm.exec) (hb : c.code = cc) {pc tgt : Nat} {off : Int} (hdg : decode cc pc = .ok (.ifCond .eq off, 3)) (ht : (pc : Int) + off = (tgt : Int)) (hq : qI C J R K (.ifCond .eq off) a b L ls st h) (hj : ∀ ls st h, J a ls st h → qG p l e Rm s m args below meth c cells slots Q α cs D base nL LS ro tgt ls st h) (hK : ∀ ls st h, K ls st h → qG p l e Rm s m args below meth c cells slots Q α cs D base nL LS ro (pc + 3) ls st h) : qG p l e Rm s m args below meth c cells slots Q α cs D base nL LS ro pc ls st h := by
  obtain ⟨x, r, rfl, h1, h3, h4⟩ := q1i_o hq
  have h2 := z_in0
  have hc : _ ↔ qcmp .eq x 0 := z_eq h1 h2
  intro H locs lsR hP hD hS hl hn hL hr
  refine lv_if_eq hx hb hdg ht (fun q => ?_) (fun q => ?_)
  · exact hj _ _ _ (h3 (hc.mp q)) H locs lsR hP hD hS hl hn hL hr
  · exact hK _ _ _ (h4 (fun q2 => q (hc.mpr q2))) H locs lsR hP hD hS hl hn hL hr
theorem gs_icmp_ne (hx : p.tables.exec = Jvm.exec) (hb : c.code = cc) {pc tgt : Nat} {off : Int} (hdg : decode cc pc = .ok (.if_icmp .ne off, 3)) (ht : (pc : Int) + off = (tgt : Int)) (hq : qI C J R K (.if_icmp .ne off) a b L ls st h) (hj : ∀ ls st h, J a ls st h → qG p l e Rm s m args below meth c cells slots Q α cs D base nL LS ro tgt ls st h) (hK : ∀ ls st h, K ls st h → qG p l e Rm s m args below meth c cells slots Q α cs D base nL LS ro (pc + 3) ls st h) : qG p l e Rm s m args below meth c cells slots Q α cs D base nL LS ro pc ls st h := by
  obtain ⟨x, y, r, rfl, h1, h2, h3, h4⟩ := q2i_o hq
  have hc : _ ↔ qcmp .ne x y := not_congr (z_eq h1 h2)
  intro H locs lsR hP hD hS hl hn hL hr
  refine lv_icmp_ne hx hb hdg ht (fun q => ?_) (fun q => ?_)
  · exact hj _ _ _ (h3 (hc.mp q)) H locs lsR hP hD hS hl hn hL hr
  · exact hK _ _ _ (h4 (fun q2 => hc.mpr q2 q)) H locs lsR hP hD hS hl hn hL hr
theorem gs_if_ne (hx : p.tables.exec = Jvm.exec) (hb : c.code = cc) {pc tgt : Nat} {off : Int} (hdg : decode cc pc = .ok (.ifCond .ne off, 3)) (ht : (pc : Int) + off = (tgt : Int)) (hq : qI C J R K (.ifCond .ne off) a b L ls st h) (hj : ∀ ls st h, J a ls st h → qG p l e Rm s m args below meth c cells slots Q α cs D base nL LS ro tgt ls st h) (hK : ∀ ls st h, K ls st h → qG p l e Rm s m args below meth c cells slots Q α cs D base nL LS ro (pc + 3) ls st h) : qG p l e Rm s m args below meth c cells slots Q α cs D base nL LS ro pc ls st h := by
  obtain ⟨x, r, rfl, h1, h3, h4⟩ := q1i_o hq
  have h2 := z_in0
  have hc : _ ↔ qcmp .ne x 0 := not_congr (z_eq h1 h2)
  intro H locs lsR hP hD hS hl hn hL hr
  refine lv_if_ne hx hb hdg ht (fun q => ?_) (fun q => ?_)
  · exact hj _ _ _ (h3 (hc.mp q)) H locs lsR hP hD hS hl hn hL hr
  · exact hK _ _ _ (h4 (fun q2 => hc.mpr q2 q)) H locs lsR hP hD hS hl hn hL hr
theorem gs_icmp_lt (hx : p.tables.exec = Jvm.exec) (hb : c.code = cc) {pc tgt : Nat} {off : Int} (hdg : decode cc pc = .ok (.if_icmp .lt off, 3)) (ht : (pc : Int) + off = (tgt : Int)) (hq : qI C J R K (.if_icmp .lt off) a b L ls st h) (hj : ∀ ls st h, J a ls st h → qG p l e Rm s m args below meth c cells slots Q α cs D base nL LS ro tgt ls st h) (hK : ∀ ls st h, K ls st h → qG p l e Rm s m args below meth c cells slots Q α cs D base nL LS ro (pc + 3) ls st h) : qG p l e Rm s m args below meth c cells slots Q α cs D base nL LS ro pc ls st h := by
  obtain ⟨x, y, r, rfl, h1, h2, h3, h4⟩ := q2i_o hq
  have hc : _ ↔ qcmp .lt x y := z_lt h1 h2
  intro H locs lsR hP hD hS hl hn hL hr
  refine lv_icmp_lt hx hb hdg ht (fun q => ?_) (fun q => ?_)
  · exact hj _ _ _ (h3 (hc.mp q)) H locs lsR hP hD hS hl hn hL hr
  · exact hK _ _ _ (h4 (fun q2 => q (hc.mpr q2))) H locs lsR hP hD hS hl hn hL hr
theorem gs_if_lt (hx : p.tables.exec = Jvm.exec) (hb : c.code = cc) {pc tgt : Nat} {off : Int} (hdg : decode cc pc = .ok (.ifCond .lt off, 3)) (ht : (pc : Int) + off = (tgt : Int)) (hq : qI C J R K (.ifCond .lt off) a b L ls st h) (hj : ∀ ls st h, J a ls st h → qG p l e Rm s m args below meth c cells slots Q α cs D base nL LS ro tgt ls st h) (hK : ∀ ls st h, K ls st h → qG p l e Rm s m args below meth c cells slots Q α cs D base nL LS ro (pc + 3) ls st h) : qG p l e Rm s m args below meth c cells slots Q α cs D base nL LS ro pc ls st h := by
  obtain ⟨x, r, rfl, h1, h3, h4⟩ := q1i_o hq
  have h2 := z_in0
  have hc : _ ↔ qcmp .lt x 0 := z_lt h1 h2
  intro H locs lsR hP hD hS hl hn hL hr
  refine lv_if_lt hx hb hdg ht (fun q => ?_) (fun q => ?_)
  · exact hj _ _ _ (h3 (hc.mp q)) H locs lsR hP hD hS hl hn hL hr
  · exact hK _ _ _ (h4 (fun q2 => q (hc.mpr q2))) H locs lsR hP hD hS hl hn hL hr
theorem gs_icmp_ge (hx : p.tables.exec = Jvm.exec) (hb : c.code = cc) {pc tgt : Nat} {off : Int} (hdg : decode cc pc = .ok (.if_icmp .ge off, 3)) (ht : (pc : Int) + off = (tgt : Int)) (hq : qI C J R K (.if_icmp .ge off) a b L ls st h) (hj : ∀ ls st h, J a ls st h → qG p l e Rm s m args below meth c cells slots Q α cs D base nL LS ro tgt ls st h) (hK : ∀ ls st h, K ls st h → qG p l e Rm s m args below meth c cells slots Q α cs D base nL LS ro (pc + 3) ls st h) : qG p l e Rm s m args below meth c cells slots Q α cs D base nL LS ro pc ls st h := by
  obtain ⟨x, y, r, rfl, h1, h2, h3, h4⟩ := q2i_o hq
  have hc : _ ↔ qcmp .ge x y := z_le h2 h1
  intro H locs lsR hP hD hS hl hn hL hr
  refine lv_icmp_ge hx hb hdg ht (fun q => ?_) (fun q => ?_)
  · exact hj _ _ _ (h3 (hc.mp q)) H locs lsR hP hD hS hl hn hL hr
  · exact hK _ _ _ (h4 (fun q2 => q (hc.mpr q2))) H locs lsR hP hD hS hl hn hL hr
theorem gs_if_ge (hx : p.tables.exec = Jvm.exec) (hb : c.code = cc) {pc tgt : Nat} {off : Int} (hdg : decode cc pc = .ok (.ifCond .ge off, 3)) (ht : (pc : Int) + off = (tgt : Int)) (hq : qI C J R K (.ifCond .ge off) a b L ls st h) (hj : ∀ ls st h, J a ls st h → qG p l e Rm s m args below meth c cells slots Q α cs D base nL LS ro tgt ls st h) (hK : ∀ ls st h, K ls st h → qG p l e Rm s m args below meth c cells slots Q α cs D base nL LS ro (pc + 3) ls st h) : qG p l e Rm s m args below meth c cells slots Q α cs D base nL LS ro pc ls st h := by
  obtain ⟨x, r, rfl, h1, h3, h4⟩ := q1i_o hq
  have h2 := z_in0
  have hc : _ ↔ qcmp .ge x 0 := z_le h2 h1
  intro H locs lsR hP hD hS hl hn hL hr
  refine lv_if_ge hx hb hdg ht (fun q => ?_) (fun q => ?_)
  · exact hj _ _ _ (h3 (hc.mp q)) H locs lsR hP hD hS hl hn hL hr
  · exact hK _ _ _ (h4 (fun q2 => q (hc.mpr q2))) H locs lsR hP hD hS hl hn hL hr
theorem gs_icmp_gt (hx : p.tables.exec = Jvm.exec) (hb : c.code = cc) {pc tgt : Nat} {off : Int} (hdg : decode cc pc = .ok (.if_icmp .gt off, 3)) (ht : (pc : Int) + off = (tgt : Int)) (hq : qI C J R K (.if_icmp .gt off) a b L ls st h) (hj : ∀ ls st h, J a ls st h → qG p l e Rm s m args below meth c cells slots Q α cs D base nL LS ro tgt ls st h) (hK : ∀ ls st h, K ls st h → qG p l e Rm s m args below meth c cells slots Q α cs D base nL LS ro (pc + 3) ls st h) : qG p l e Rm s m args below meth c cells slots Q α cs D base nL LS ro pc ls st h := by
  obtain ⟨x, y, r, rfl, h1, h2, h3, h4⟩ := q2i_o hq
  have hc : _ ↔ qcmp .gt x y := z_lt h2 h1
  intro H locs lsR hP hD hS hl hn hL hr
  refine lv_icmp_gt hx hb hdg ht (fun q => ?_) (fun q => ?_)
  · exact hj _ _ _ (h3 (hc.mp q)) H locs lsR hP hD hS hl hn hL hr
  · exact hK _ _ _ (h4 (fun q2 => q (hc.mpr q2))) H locs lsR hP hD hS hl hn hL hr
theorem gs_if_gt (hx : p.tables.exec = Jvm.exec) (hb : c.code = cc) {pc tgt : Nat} {off : Int} (hdg : decode cc pc = .ok (.ifCond .gt off, 3)) (ht : (pc : Int) + off = (tgt : Int)) (hq : qI C J R K (.ifCond .gt off) a b L ls st h) (hj : ∀ ls st h, J a ls st h → qG p l e Rm s m args below meth c cells slots Q α cs D base nL LS ro tgt ls st h) (hK : ∀ ls st h, K ls st h → qG p l e Rm s m args below meth c cells slots Q α cs D base nL LS ro (pc + 3) ls st h) : qG p l e Rm s m args below meth c cells slots Q α cs D base nL LS ro pc ls st h := by
  obtain ⟨x, r, rfl, h1, h3, h4⟩ := q1i_o hq
  have h2 := z_in0
  have hc : _ ↔ qcmp .gt x 0 := z_lt h2 h1
  intro H locs lsR hP hD hS hl hn hL hr
  refine lv_if_gt hx hb hdg ht (fun q => ?_) (fun q => ?_)
  · exact hj _ _ _ (h3 (hc.mp q)) H locs lsR hP hD hS hl hn hL hr
  · exact hK _ _ _ (h4 (fun q2 => q (hc.mpr q2))) H locs lsR hP hD hS hl hn hL hr
theorem gs_icmp_le (hx : p.tables.exec = Jvm.exec) (hb : c.code = cc) {pc tgt : Nat} {off : Int} (hdg : decode cc pc = .ok (.if_icmp .le off, 3)) (ht : (pc : Int) + off = (tgt : Int)) (hq : qI C J R K (.if_icmp .le off) a b L ls st h) (hj : ∀ ls st h, J a ls st h → qG p l e Rm s m args below meth c cells slots Q α cs D base nL LS ro tgt ls st h) (hK : ∀ ls st h, K ls st h → qG p l e Rm s m args below meth c cells slots Q α cs D base nL LS ro (pc + 3) ls st h) : qG p l e Rm s m args below meth c cells slots Q α cs D base nL LS ro pc ls st h := by
  obtain ⟨x, y, r, rfl, h1, h2, h3, h4⟩ := q2i_o hq
  have hc : _ ↔ qcmp .le x y := z_le h1 h2
  intro H locs lsR hP hD hS hl hn hL hr
  refine lv_icmp_le hx hb hdg ht (fun q => ?_) (fun q => ?_)
  · exact hj _ _ _ (h3 (hc.mp q)) H locs lsR hP hD hS hl hn hL hr
  · exact hK _ _ _ (h4 (fun q2 => q (hc.mpr q2))) H locs lsR hP hD hS hl hn hL hr
theorem gs_if_le (hx : p.tables.exec = Jvm.exec) (hb : c.code = cc) {pc tgt : Nat} {off : Int} (hdg : decode cc pc = .ok (.ifCond .le off, 3)) (ht : (pc : Int) + off = (tgt : Int)) (hq : qI C J R K (.ifCond .le off) a b L ls st h) (hj : ∀ ls st h, J a ls st h → qG p l e Rm s m args below meth c cells slots Q α cs D base nL LS ro tgt ls st h) (hK : ∀ ls st h, K ls st h → qG p l e Rm s m args below meth c cells slots Q α cs D base nL LS ro (pc + 3) ls st h) : qG p l e Rm s m args below meth c cells slots Q α cs D base nL LS ro pc ls st h := by
  obtain ⟨x, r, rfl, h1, h3, h4⟩ := q1i_o hq
  have h2 := z_in0
  have hc : _ ↔ qcmp .le x 0 := z_le h1 h2
  intro H locs lsR hP hD hS hl hn hL hr
  refine lv_if_le hx hb hdg ht (fun q => ?_) (fun q => ?_)
  · exact hj _ _ _ (h3 (hc.mp q)) H locs lsR hP hD hS hl hn hL hr
  · exact hK _ _ _ (h4 (fun q2 => q (hc.mpr q2))) H locs lsR hP hD hS hl hn hL hr
theorem gs_goto (hx : p.tables.exec = Jvm.exec) (hb : c.code = cc) {pc tgt : Nat} {off : Int} (hdg : decode cc pc = .ok (.goto off, 3)) (ht : (pc : Int) + off = (tgt : Int)) (hq : qI C J R K (.goto off) a b L ls st h) (hj : ∀ ls st h, J a ls st h → qG p l e Rm s m args below meth c cells slots Q α cs D base nL LS ro tgt ls st h) : qG p l e Rm s m args below meth c cells slots Q α cs D base nL LS ro pc ls st h := by
  intro H locs lsR hP hD hS hl hn hL hr
  exact lv_goto hx hb hdg ht (hj _ _ _ hq H locs lsR hP hD hS hl hn hL hr)
end
