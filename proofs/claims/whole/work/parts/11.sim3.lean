/-! ===== the simulation: what is known of a state, of a frame ===== -/
def qspan (j : Nat) : Int := qnth [0, 0, 7, 13, 18, 22, 25, 27] j 0
def qstr (k : Nat) : List Int := qnth [[115, 107, 112, 116, 100], [112, 116], [59]] k []
def qsb (k j : Nat) : Int := qnth (qstr k) j 0
/-- the cells that nobody writes: the table of spans, the script, three texts and their bytes -/
def qro (Ls : Nat) (xs : Nat → Int32) : Nat → qC := fun n =>
  if n = 1000 then .inr (0, 8, .inl qspan)
  else if n = 1001 then .inr (0, Ls, .inl (fun j => (xs j).toInt))
  else if 1002 ≤ n ∧ n < 1005 then .inl (11, [.inr (.inr (some (n + 3))), .inl 0])
  else if 1005 ≤ n ∧ n < 1008 then .inr (1, (qstr (n - 1005)).length, .inl (qsb (n - 1005)))
  else .inl (999, [])
abbrev qtys (cs : Nat → ClassId) : List (ClassId × FieldType) := [(cs 0, .int), (cs 1, .byte), (cs 2, .long), (cs 3, .object "PlateCuts$Tape"), (cs 4, .array .long)]
def qSF (α : Nat → Nat) (cs : Nat → ClassId) (D : va_G) (base Ls : Nat) (xs : Nat → Int32) (U : State) : Prop :=
  va_K D vwCl (qtys cs) U ∧ base ≤ U.heap.size ∧ va_Z RX6 "FIRST_SPAN" "[I" (.ref (α 1000)) (fun q => base ≤ q) U U.heap ∧ va_T .int (α 1000) 8 (fun j => .int (Int32.ofInt (qspan j))) (fun q => base ≤ q) U U.heap ∧
  (va_X (α 1001) Ls xs U U.heap ∧ α 1001 < base ∧ Ls < 2 ^ 31) ∧ va_Z RJ0 "COMPACT_STRINGS" "Z" (.int 1) (fun q => base ≤ q) U U.heap ∧
  (∀ k, k < 3 → va_O RJ0 (α (1002 + k)) (fun q => base ≤ q) U U.heap ∧ va_OF RJ0 "coder" "B" (.int 0) (α (1002 + k)) (fun q => base ≤ q) U U.heap ∧ va_OF RJ0 "value" "[B" (.ref (α (1005 + k))) (α (1002 + k)) (fun q => base ≤ q) U U.heap ∧ va_T .byte (α (1005 + k)) (qstr k).length (fun j => .int (Int32.ofInt (qsb k j))) (fun q => base ≤ q) U U.heap) ∧
  (vk_R RX8 92 "skptd" (α 1002) U ∧ vk_R RX8 98 "pt" (α 1003) U ∧ vk_R RX8 106 ";" (α 1004) U) ∧ ∀ e ∈ qNl, va_Nw (qNk e) U
theorem qSF_go {α : Nat → Nat} {cs : Nat → ClassId} {D : va_G} {base Ls : Nat} {xs : Nat → Int32} {s U : State} {H : Heap} {locs : List Loc} (h : qSF α cs D base Ls xs s) (hW : s.WarmedH U.vm) (hU : U.heap = H) (hS : va_S (fun q => base ≤ q) s.heap H locs) : qSF α cs D base Ls xs U := by
  subst hU
  obtain ⟨h1, h2, h3, h4, ⟨h5, h5b, h5c⟩, h6, h7, ⟨h8, h9, h10⟩, h11⟩ := h
  have hv := hW.alike
  refine ⟨h1.moved hv, Nat.le_trans h2 hS.1, (h3.kept hS.2.1).moved hv, (h4.kept hS.2.1).moved hv, ⟨(h5.kept (hS.2.1 _ (by omega) (by omega))).moved hv, h5b, h5c⟩, (h6.kept hS.2.1).moved hv, fun k hk => ?_, ⟨h8.warm hW, h9.warm hW, h10.warm hW⟩, fun e he => va_Nw.warmM hW (h11 e he)⟩
  obtain ⟨a1, a2, a3, a4⟩ := h7 k hk
  exact ⟨(a1.kept hS.2.1).moved hv, (a2.kept hS.2.1).moved hv, (a3.kept hS.2.1).moved hv, (a4.kept hS.2.1).moved hv⟩
theorem qSF_call {α : Nat → Nat} {cs : Nat → ClassId} {D : va_G} {base Ls : Nat} {xs : Nat → Int32} {U : State} {g : JFrame} {mk : MethodId} {a : Array Value} (h : qSF α cs D base Ls xs U) : qSF α cs D base Ls xs (U.calling g mk a) := by
  obtain ⟨h1, h2, h3, h4, ⟨h5, h5b⟩, h6, h7, ⟨h8, h9, h10⟩, h11⟩ := h
  have hv : U.vm.Alike (U.calling g mk a).vm := Vm.Alike.refl U.vm
  refine ⟨h1.moved hv, h2, h3.moved hv, h4.moved hv, ⟨h5.moved hv, h5b⟩, h6.moved hv, fun k hk => ?_, ⟨h8.same rfl, h9.same rfl, h10.same rfl⟩, fun e he => va_Nw.same rfl rfl (h11 e he)⟩
  obtain ⟨a1, a2, a3, a4⟩ := h7 k hk
  exact ⟨a1.moved hv, a2.moved hv, a3.moved hv, a4.moved hv⟩
def qFr (p : Program) (s : State) (m : MethodId) (args : Array Value) (meth : Method) (c : Code) (md : qMd) : Prop :=
  p.tables.exec = Jvm.exec ∧ c.code = md.2.1 ∧ c.maxLocals = md.2.2.1 ∧ meth.sig.returnType = md.2.2.2.1 ∧ meth.locks = false ∧ s.vm.findClass (qon md.2.2.2.2.1) = some m.cls ∧ ∀ w ∈ TBL, w.before args s = true
def qRm (d : Nat) (Rm : Room) (cells slots : Nat) : Prop := d + 1 ≤ Rm.frames ∧ 40 * d + 40 ≤ Rm.locals ∧ cells ≤ Rm.cells ∧ slots ≤ Rm.slots
/-- what a pure heap says of the cells that nobody writes -/
theorem qro_ai {Ls : Nat} {xs : Nat → Int32} {n t len : Nat} {f : Nat → Int} (h : qro Ls xs n = .inr (t, len, .inl f)) : (n = 1000 ∧ t = 0 ∧ len = 8 ∧ f = qspan) ∨ (n = 1001 ∧ t = 0 ∧ len = Ls ∧ f = fun j => (xs j).toInt) ∨ ∃ k, k < 3 ∧ n = 1005 + k ∧ t = 1 ∧ len = (qstr k).length ∧ f = qsb k := by
  unfold qro at h
  split at h
  · cases h; exact Or.inl ⟨by assumption, rfl, rfl, rfl⟩
  · split at h
    · cases h; exact Or.inr (Or.inl ⟨by assumption, rfl, rfl, rfl⟩)
    · split at h
      · cases h
      · split at h
        · next h4 =>
          obtain ⟨e1, e2⟩ := Prod.mk.inj (Sum.inr.inj h)
          obtain ⟨e2, e3⟩ := Prod.mk.inj e2
          exact Or.inr (Or.inr ⟨n - 1005, by omega, by omega, e1.symm, e2.symm, (Sum.inl.inj e3).symm⟩)
        · cases h
theorem qro_al {Ls : Nat} {xs : Nat → Int32} {n t len : Nat} {f : (Nat → Int64) ⊕ (Nat → Option Nat)} (h : qro Ls xs n = .inr (t, len, .inr f)) : False := by
  unfold qro at h
  split at h
  · cases h
  · split at h
    · cases h
    · split at h
      · cases h
      · split at h
        · have e3 := (Prod.mk.inj (Prod.mk.inj (Sum.inr.inj h)).2).2
          cases e3
        · cases h
theorem qro_ob {Ls : Nat} {xs : Nat → Int32} {n ci : Nat} {fs : List qV} (h : qro Ls xs n = .inl (ci, fs)) : ci = 999 ∨ ∃ k, k < 3 ∧ n = 1002 + k ∧ ci = 11 ∧ fs = [.inr (.inr (some (1005 + k))), .inl 0] := by
  unfold qro at h
  split at h
  · cases h
  · split at h
    · cases h
    · split at h
      · next h3 => cases h; exact Or.inr ⟨n - 1002, by omega, by omega, rfl, by rw [show 1005 + (n - 1002) = n + 3 by omega]⟩
      · split at h
        · cases h
        · cases h; exact Or.inl rfl
theorem q_ofNat (n : Nat) : Int32.ofInt (n : Int) = Int32.ofNat n := rfl
theorem q_tv1 (α : Nat → Nat) (v : qV) (r : List qV) : (v :: r).map (qtv α) = qtv α v :: r.map (qtv α) := rfl
section
variable {p : Program} {l : Launch} {e : Env} {Rm : Room} {s : State} {m : MethodId} {args : Array Value} {below : List Frame} {meth : Method} {c : Code} {cells slots : Nat} {Q : State → Prop} {α : Nat → Nat} {cs : Nat → ClassId} {D : va_G} {base nL : Nat} {LS : List Nat} {ro : Nat → qC} {cc : ByteArray} {pc : Nat}
variable {C : Nat → List qV → qH → qR → Prop} {J : Nat → qL → List qV → qH → Prop} {R : qR} {K : qL → List qV → qH → Prop} {a b : Nat} {L : List Nat} {ls : qL} {st : List qV} {h : qH}
variable {Ls : Nat} {xs : Nat → Int32} {ow : Nat}
theorem gs_getfield (hx : p.tables.exec = Jvm.exec) (hb : c.code = cc) (hown : s.vm.findClass (qon ow) = some m.cls) (hts : ∀ w ∈ TBL, w.before args s = true) (hSF : qSF α cs D base Ls xs s) (hro : ro = qro Ls xs) {pc k : Nat} (hdg : decode cc pc = .ok (.getfield k, 3)) (he : (ow, k, b, a) ∈ qFl) (hq : qI C J R K (.getfield k) a b L ls st h) (hK : ∀ ls st h, K ls st h → qG p l e Rm s m args below meth c cells slots Q α cs D base nL LS ro (pc + 3) ls st h) : qG p l e Rm s m args below meth c cells slots Q α cs D base nL LS ro pc ls st h := by
  obtain ⟨n, r, rfl, hq⟩ := q1r_o hq
  obtain ⟨fs, hn, hq⟩ := qob_o hq
  obtain ⟨v, hv, hq⟩ := qso_o hq
  obtain ⟨hci, hk⟩ := qFl_s _ he
  obtain ⟨hcl, hin, -, -, hdc⟩ := qcl_in hci
  intro H locs lsR hP hD hS hl hnl hL hr
  have hnw : n < qNW := by
    refine Nat.not_le.mp fun q => ?_
    have := hr n q
    rw [hn, hro] at this
    have hci : b < 9 := hci
    rcases qro_ob this.symm with e | ⟨_, _, _, e, _⟩
    · omega
    · omega
  refine va_get (C := (qcl b).1) (T := (qcl b).2.1) (N := (qcl b).2.2) hx hb hts hin hown hSF.1 hP n (by rw [qws_get hnw, hn]; rfl) hcl a hk (hts _ (qFl_w _ (List.mem_map_of_mem (f := qFw) he))) (fun x hx => by rw [hdc a hk] at hx; exact hx) (v := qtv α v) (by rw [List.getElem?_map, hv]; rfl) hdg ?_
  exact hK _ _ _ hq H locs lsR hP hD hS hl hnl hL hr
theorem gs_getfieldJ (hx : p.tables.exec = Jvm.exec) (hb : c.code = cc) (hown : s.vm.findClass RJ0 = some m.cls) (hts : ∀ w ∈ TBL, w.before args s = true) (hSF : qSF α cs D base Ls xs s) (hro : ro = qro Ls xs) {pc k : Nat} (hdg : decode cc pc = .ok (.getfield k, 3)) (he : (k, a) = (9, 0) ∨ (k, a) = (15, 1)) (hq : qI C J R K (.getfield k) a 11 L ls st h) (hK : ∀ ls st h, K ls st h → qG p l e Rm s m args below meth c cells slots Q α cs D base nL LS ro (pc + 3) ls st h) : qG p l e Rm s m args below meth c cells slots Q α cs D base nL LS ro pc ls st h := by
  obtain ⟨n, r, rfl, hq⟩ := q1r_o hq
  obtain ⟨fs, hn, hq⟩ := qob_o hq
  obtain ⟨v, hv, hq⟩ := qso_o hq
  intro H locs lsR hP hD hS hl hnl hL hr
  have hnw : qNW ≤ n := by
    refine Nat.not_lt.mp fun q => ?_
    obtain ⟨r, h1, -⟩ := hP n (α n, .inr (11, fs.map (qtv α))) (by rw [qws_get q, hn]; rfl)
    cases h1
  have h1 := hr n hnw
  rw [hn, hro] at h1
  rcases qro_ob h1.symm with e | ⟨k0, hk0, rfl, -, rfl⟩
  · cases e
  obtain ⟨-, a2, a3, -⟩ := hSF.2.2.2.2.2.2.1 k0 hk0
  rcases he with e | e
  · cases e
    cases hv
    refine vk_getf hx hb a3 hS hown (hts _ (qZ_w _ (List.mem_cons_of_mem _ (List.mem_cons_of_mem _ List.mem_cons_self)))) (fun x h => h) hdg ?_
    exact hK _ _ _ hq H locs lsR hP hD hS hl hnl hL hr
  · cases e
    cases hv
    refine vk_getf hx hb a2 hS hown (hts _ (qZ_w _ (List.mem_cons_of_mem _ (List.mem_cons_of_mem _ (List.mem_cons_of_mem _ List.mem_cons_self))))) (fun x h => h) hdg ?_
    exact hK _ _ _ hq H locs lsR hP hD hS hl hnl hL hr
theorem qfit_o {kd : Nat} {v : qV} (h : qfit kd v) (hk : kd < 3) : narrow (qkt kd) (qtv α v) = qtv α v ∧ fits (qkt kd) (qtv α v) = true := by
  match kd, hk, v, h with
  | 0, _, .inl z, _ => exact ⟨vp_nar_int _, rfl⟩
  | 1, _, .inl z, h =>
    rcases h with rfl | rfl
    · exact ⟨rfl, rfl⟩
    · exact ⟨rfl, rfl⟩
  | 2, _, .inr (.inl x), _ => exact ⟨rfl, rfl⟩
theorem gs_putfield (hx : p.tables.exec = Jvm.exec) (hb : c.code = cc) (hown : s.vm.findClass (qon ow) = some m.cls) (hts : ∀ w ∈ TBL, w.before args s = true) (hSF : qSF α cs D base Ls xs s) {pc k : Nat} (hdg : decode cc pc = .ok (.putfield k, 3)) (he : (ow, k, b, a, L.headD 0) ∈ qPl) (hq : qI C J R K (.putfield k) a b L ls st h) (hK : ∀ ls st h, K ls st h → qG p l e Rm s m args below meth c cells slots Q α cs D base nL LS ro (pc + 3) ls st h) : qG p l e Rm s m args below meth c cells slots Q α cs D base nL LS ro pc ls st h := by
  obtain ⟨v, n, r, rfl, hnw, hq⟩ := qvr_o hq
  obtain ⟨fs, hn, hlen, hfit, hq⟩ := qob_o hq
  obtain ⟨hci, hk, hfin, hpd, hkd⟩ := qPl_s _ he
  obtain ⟨hcl, hin, ⟨ty0, hty⟩, hnm, hdc⟩ := qcl_in hci
  obtain ⟨hna, hfi⟩ := qfit_o (α := α) hfit hkd
  intro H locs lsR hP hD hS hl hnl hL hr
  refine va_put (C := (qcl b).1) (T := (qcl b).2.1) (N := (qcl b).2.2) hx hb hts hin ty0 hty hnm hown hSF.1 hP hD hS n (by rw [qws_get hnw, hn]; rfl) hcl a hk (hts _ (qPl_w _ (List.mem_map_of_mem (f := fun e => qFw (e.1, e.2.1, e.2.2.1, e.2.2.2.1)) he))) (fun x hx => by rw [hdc a hk] at hx; exact hx) hfin hpd hna hfi (by simpa using hlen) hdg fun H1 locs1 hP1 hD1 hS1 => ?_
  have e1 : (qws α cs h).set n (α n, .inr (b, (fs.map (qtv α)).set a (qtv α v))) = qws α cs (qS h n (.inl (b, fs.set a v))) := by
    rw [← qws_set hnw]
    congr 2
    show _ = Sum.inr (b, (fs.set a v).map (qtv α))
    rw [List.map_set]
  rw [e1] at hP1 hD1
  exact hK _ _ _ hq H1 locs1 lsR hP1 hD1 hS1 hl hnl hL (fun j hj => by rw [qS_ne (by omega)]; exact hr j hj)
theorem gs_getstatic (hx : p.tables.exec = Jvm.exec) (hb : c.code = cc) (hown : s.vm.findClass RX6 = some m.cls) (hts : ∀ w ∈ TBL, w.before args s = true) (hSF : qSF α cs D base Ls xs s) {pc : Nat} (hdg : decode cc pc = .ok (.getstatic 19, 3)) (hq : qI C J R K (.getstatic 19) 1000 b [] ls st h) (hK : ∀ ls st h, K ls st h → qG p l e Rm s m args below meth c cells slots Q α cs D base nL LS ro (pc + 3) ls st h) : qG p l e Rm s m args below meth c cells slots Q α cs D base nL LS ro pc ls st h := by
  intro H locs lsR hP hD hS hl hnl hL hr
  refine va_gets hx hb hSF.2.2.1 hS hown (hts _ (qZ_w _ List.mem_cons_self)) (fun x h => h) hdg ?_
  exact hK _ _ _ hq H locs lsR hP hD hS hl hnl hL hr
theorem gs_getstaticJ (hx : p.tables.exec = Jvm.exec) (hb : c.code = cc) (hown : s.vm.findClass RJ0 = some m.cls) (hts : ∀ w ∈ TBL, w.before args s = true) (hSF : qSF α cs D base Ls xs s) {pc : Nat} (hdg : decode cc pc = .ok (.getstatic 38, 3)) {x0 : Nat} {L' : List Nat} (hq : qI C J R K (.getstatic 38) 1 b (x0 :: L') ls st h) (hK : ∀ ls st h, K ls st h → qG p l e Rm s m args below meth c cells slots Q α cs D base nL LS ro (pc + 3) ls st h) : qG p l e Rm s m args below meth c cells slots Q α cs D base nL LS ro pc ls st h := by
  intro H locs lsR hP hD hS hl hnl hL hr
  refine va_gets hx hb hSF.2.2.2.2.2.1 hS hown (hts _ (qZ_w _ (List.mem_cons_of_mem _ List.mem_cons_self))) (fun x h => h) hdg ?_
  exact hK _ _ _ hq H locs lsR hP hD hS hl hnl hL hr
theorem gs_ldc (hx : p.tables.exec = Jvm.exec) (hb : c.code = cc) (hown : s.vm.findClass RX8 = some m.cls) (hSF : qSF α cs D base Ls xs s) {pc k : Nat} (hdg : decode cc pc = .ok (.ldc k, 2)) (he : (k, a) ∈ ([(92, 1002), (98, 1003), (106, 1004)] : List (Nat × Nat))) (hq : qI C J R K (.ldc k) a b L ls st h) (hK : ∀ ls st h, K ls st h → qG p l e Rm s m args below meth c cells slots Q α cs D base nL LS ro (pc + 2) ls st h) : qG p l e Rm s m args below meth c cells slots Q α cs D base nL LS ro pc ls st h := by
  obtain ⟨h8, h9, h10⟩ := hSF.2.2.2.2.2.2.2.1
  intro H locs lsR hP hD hS hl hnl hL hr
  have kk := hK _ _ _ hq H locs lsR hP hD hS hl hnl hL hr
  simp only [List.mem_cons, List.not_mem_nil, or_false, Prod.mk.injEq] at he
  rcases he with ⟨rfl, rfl⟩ | ⟨rfl, rfl⟩ | ⟨rfl, rfl⟩
  · exact va_ldcS hx hb hown h8 hdg kk
  · exact va_ldcS hx hb hown h9 hdg kk
  · exact va_ldcS hx hb hown h10 hdg kk
theorem gs_ldc2 (hx : p.tables.exec = Jvm.exec) (hb : c.code = cc) (hown : s.vm.findClass (qon ow) = some m.cls) (hts : ∀ w ∈ TBL, w.before args s = true) {pc k : Nat} (hdg : decode cc pc = .ok (.ldc2_w k, 3)) (he : (ow, k, a) ∈ qCl) (hq : qI C J R K (.ldc2_w k) a b L ls st h) (hK : ∀ ls st h, K ls st h → qG p l e Rm s m args below meth c cells slots Q α cs D base nL LS ro (pc + 3) ls st h) : qG p l e Rm s m args below meth c cells slots Q α cs D base nL LS ro pc ls st h := by
  intro H locs lsR hP hD hS hl hnl hL hr
  exact lv_ldc2 hx hb hown (hts _ (qCl_w _ (List.mem_map_of_mem (f := fun e : Nat × Nat × Nat => Cond.constantLong (qon e.1) e.2.1 (Int64.ofNat e.2.2)) he))) hdg (hK _ _ _ hq H locs lsR hP hD hS hl hnl hL hr)
theorem gs_iaload (hx : p.tables.exec = Jvm.exec) (hb : c.code = cc) (hSF : qSF α cs D base Ls xs s) (hro : ro = qro Ls xs) {pc : Nat} (hdg : decode cc pc = .ok (.iaload, 1)) (hq : qI C J R K .iaload a b L ls st h) (hK : ∀ ls st h, K ls st h → qG p l e Rm s m args below meth c cells slots Q α cs D base nL LS ro (pc + 1) ls st h) : qG p l e Rm s m args below meth c cells slots Q α cs D base nL LS ro pc ls st h := by
  obtain ⟨i, n, r, rfl, hq⟩ := qir_o hq
  obtain ⟨len, f, hn, h0, h1, h2, hq⟩ := qai_o hq
  intro H locs lsR hP hD hS hl hnl hL hr
  have kk := hK _ _ _ hq H locs lsR hP hD hS hl hnl hL hr
  by_cases hnw : n < qNW
  · refine va_iald hx hb hSF.1 hP n 0 (by rw [qws_get hnw, hn]; rfl) rfl (z_vin h0 h2 h1) hdg ?_
    rw [z_cl h0 h2]
    exact kk
  · have h3 := hr n (by omega)
    rw [hn, hro] at h3
    rcases qro_ai h3.symm with ⟨rfl, -, rfl, rfl⟩ | ⟨rfl, -, rfl, rfl⟩ | ⟨_, _, _, e, _⟩
    · exact va_ti hx hb hSF.2.2.2.1 hS (z_vin h0 h2 h1) (by rw [z_cl h0 h2]; rfl) hdg kk
    · obtain ⟨g1, g2, g3⟩ := hSF.2.2.2.2.1
      refine va_sld hx hb g1 (Nat.lt_of_lt_of_le g2 hSF.2.1) (Nat.not_le.mpr g2) hS (z_vin h0 h2 h1) hdg ?_
      rw [z_cl h0 h2]
      have e : Int32.ofInt (xs i.toNat).toInt = xs i.toNat := z_r _
      simp only [List.map_cons, qtv, e] at kk
      exact kk
    · cases e
theorem gs_baload (hx : p.tables.exec = Jvm.exec) (hb : c.code = cc) (hSF : qSF α cs D base Ls xs s) (hro : ro = qro Ls xs) {pc : Nat} (hdg : decode cc pc = .ok (.baload, 1)) (hq : qI C J R K .baload a b L ls st h) (hK : ∀ ls st h, K ls st h → qG p l e Rm s m args below meth c cells slots Q α cs D base nL LS ro (pc + 1) ls st h) : qG p l e Rm s m args below meth c cells slots Q α cs D base nL LS ro pc ls st h := by
  obtain ⟨i, n, r, rfl, hq⟩ := qir_o hq
  obtain ⟨len, f, hn, h0, h1, h2, hq⟩ := qai_o hq
  intro H locs lsR hP hD hS hl hnl hL hr
  have kk := hK _ _ _ hq H locs lsR hP hD hS hl hnl hL hr
  by_cases hnw : n < qNW
  · refine va_bald hx hb hSF.1 hP n 1 (by rw [qws_get hnw, hn]; rfl) rfl (z_vin h0 h2 h1) hdg ?_
    rw [z_cl h0 h2]
    exact kk
  · have h3 := hr n (by omega)
    rw [hn, hro] at h3
    rcases qro_ai h3.symm with ⟨_, e, _⟩ | ⟨_, e, _⟩ | ⟨k, hk, rfl, -, rfl, rfl⟩
    · cases e
    · cases e
    · obtain ⟨-, -, -, a4⟩ := hSF.2.2.2.2.2.2.1 k hk
      exact va_tb hx hb a4 hS (z_vin h0 h2 h1) (by rw [z_cl h0 h2]; rfl) hdg kk
theorem gs_laload (hx : p.tables.exec = Jvm.exec) (hb : c.code = cc) (hSF : qSF α cs D base Ls xs s) {pc : Nat} (hdg : decode cc pc = .ok (.laload, 1)) (hq : qI C J R K .laload a b L ls st h) (hK : ∀ ls st h, K ls st h → qG p l e Rm s m args below meth c cells slots Q α cs D base nL LS ro (pc + 1) ls st h) : qG p l e Rm s m args below meth c cells slots Q α cs D base nL LS ro pc ls st h := by
  obtain ⟨i, n, r, rfl, hnw, hq⟩ := qir_o hq
  obtain ⟨len, f, hn, h0, h1, h2, hq⟩ := qalg_o hq
  intro H locs lsR hP hD hS hl hnl hL hr
  have kk := hK _ _ _ hq H locs lsR hP hD hS hl hnl hL hr
  refine va_lald hx hb hSF.1 hP n 2 (by rw [qws_get hnw, hn]; rfl) rfl (z_vin h0 h2 h1) hdg ?_
  rw [z_cl h0 h2]
  exact kk
theorem gs_aaload (hx : p.tables.exec = Jvm.exec) (hb : c.code = cc) (hSF : qSF α cs D base Ls xs s) {pc : Nat} (hdg : decode cc pc = .ok (.aaload, 1)) (hq : qI C J R K .aaload a b L ls st h) (hK : ∀ ls st h, K ls st h → qG p l e Rm s m args below meth c cells slots Q α cs D base nL LS ro (pc + 1) ls st h) : qG p l e Rm s m args below meth c cells slots Q α cs D base nL LS ro pc ls st h := by
  obtain ⟨i, n, r, rfl, hnw, hq⟩ := qir_o hq
  obtain ⟨t, len, f, hn, ht, h0, h1, h2, hq⟩ := qar_o hq
  obtain ⟨q, hf, hq⟩ := qso_o hq
  intro H locs lsR hP hD hS hl hnl hL hr
  have kk := hK _ _ _ hq H locs lsR hP hD hS hl hnl hL hr
  have hat : (qws α cs h)[n]? = some (α n, .inl (cs t, len, .inr (.inr (.inr (.inr (fun j => (f j).map α)))))) := by rw [qws_get hnw, hn]; rfl
  have hlt : (Int32.ofInt i).toNatClampNeg < len := by rw [z_cl h0 h2]; omega
  have hv : va_rf ((fun j => (f j).map α) (Int32.ofInt i).toNatClampNeg) = .ref (α q) := by
    show va_rf ((f (Int32.ofInt i).toNatClampNeg).map α) = _
    rw [z_cl h0 h2, hf]; rfl
  have hin := z_vin (n := len) h0 h2 h1
  rcases ht with rfl | rfl
  · exact W.aald (v := .ref (α q)) (ty := .object "PlateCuts$Tape") hx hb (hP n _ hat) ((hSF.1.2 3 _ rfl).1 len (fun j => va_rf ((f j).map α))) rfl (fun q => by cases q) (by show ¬ (_ ∨ (arrV _ _ _).slots.size ≤ _); rw [arrV_size]; exact hin) (by show (arrV _ _ _).slots[_]? = _; rw [arrV_read _ _ hlt]; exact congrArg some hv) rfl rfl hdg kk
  · exact W.aald (v := .ref (α q)) (ty := .array .long) hx hb (hP n _ hat) ((hSF.1.2 4 _ rfl).1 len (fun j => va_rf ((f j).map α))) rfl (fun q => by cases q) (by show ¬ (_ ∨ (arrV _ _ _).slots.size ≤ _); rw [arrV_size]; exact hin) (by show (arrV _ _ _).slots[_]? = _; rw [arrV_read _ _ hlt]; exact congrArg some hv) rfl rfl hdg kk
theorem q_updi (f : Nat → Int) (k : Nat) (v : Int) : upd (fun j => Int32.ofInt (f j)) k (Int32.ofInt v) = fun j => Int32.ofInt (qU f k v j) := by
  funext j
  unfold upd qU
  split <;> rfl
theorem gs_iastore (hx : p.tables.exec = Jvm.exec) (hb : c.code = cc) (hSF : qSF α cs D base Ls xs s) {pc : Nat} (hdg : decode cc pc = .ok (.iastore, 1)) (hq : qI C J R K .iastore a b L ls st h) (hK : ∀ ls st h, K ls st h → qG p l e Rm s m args below meth c cells slots Q α cs D base nL LS ro (pc + 1) ls st h) : qG p l e Rm s m args below meth c cells slots Q α cs D base nL LS ro pc ls st h := by
  obtain ⟨v, i, n, r, rfl, hnw, hq⟩ := qiir_o hq
  obtain ⟨len, f, hn, h0, h1, h2, hq⟩ := qai_o hq
  intro H locs lsR hP hD hS hl hnl hL hr
  refine va_iast hx hb hSF.1 hP hD hS n 0 (by rw [qws_get hnw, hn]; rfl) rfl (z_vin h0 h2 h1) hdg fun H1 locs1 hP1 hD1 hS1 => ?_
  rw [z_cl h0 h2, q_updi] at hP1 hD1
  have e1 : (qws α cs h).set n (α n, .inl (cs 0, len, .inl (fun j => Int32.ofInt (qU f i.toNat v j)))) = qws α cs (qS h n (.inr (0, len, .inl (qU f i.toNat v)))) := by rw [← qws_set hnw]; rfl
  rw [e1] at hP1 hD1
  exact hK _ _ _ hq H1 locs1 lsR hP1 hD1 hS1 hl hnl hL (fun j hj => by rw [qS_ne (by omega)]; exact hr j hj)
theorem q_narb {v : Int} (h : -128 ≤ v ∧ v ≤ 127) : vp_nar .byte (Int32.ofInt v) = Int32.ofInt v := by
  rw [vp_nar_byte]
  apply Int32.toInt_inj.mp
  rw [Int8.toInt_toInt32, Int32.toInt_toInt8, z_t ⟨by omega, by omega⟩]
  rw [Int.bmod_eq_of_le (by omega) (by omega)]
theorem gs_bastore (hx : p.tables.exec = Jvm.exec) (hb : c.code = cc) (hSF : qSF α cs D base Ls xs s) {pc : Nat} (hdg : decode cc pc = .ok (.bastore, 1)) (hq : qI C J R K .bastore a b L ls st h) (hK : ∀ ls st h, K ls st h → qG p l e Rm s m args below meth c cells slots Q α cs D base nL LS ro (pc + 1) ls st h) : qG p l e Rm s m args below meth c cells slots Q α cs D base nL LS ro pc ls st h := by
  obtain ⟨v, i, n, r, rfl, hnw, hq⟩ := qiir_o hq
  obtain ⟨len, f, hn, h0, h1, h2, h3, h4, hq⟩ := qai_o hq
  intro H locs lsR hP hD hS hl hnl hL hr
  refine va_bast hx hb hSF.1 hP hD hS n 1 (by rw [qws_get hnw, hn]; rfl) rfl (z_vin h0 h2 h1) hdg fun H1 locs1 hP1 hD1 hS1 => ?_
  rw [z_cl h0 h2, q_narb ⟨h3, h4⟩, q_updi] at hP1 hD1
  have e1 : (qws α cs h).set n (α n, .inl (cs 1, len, .inl (fun j => Int32.ofInt (qU f i.toNat v j)))) = qws α cs (qS h n (.inr (1, len, .inl (qU f i.toNat v)))) := by rw [← qws_set hnw]; rfl
  rw [e1] at hP1 hD1
  exact hK _ _ _ hq H1 locs1 lsR hP1 hD1 hS1 hl hnl hL (fun j hj => by rw [qS_ne (by omega)]; exact hr j hj)
theorem gs_lastore (hx : p.tables.exec = Jvm.exec) (hb : c.code = cc) (hSF : qSF α cs D base Ls xs s) {pc : Nat} (hdg : decode cc pc = .ok (.lastore, 1)) (hq : qI C J R K .lastore a b L ls st h) (hK : ∀ ls st h, K ls st h → qG p l e Rm s m args below meth c cells slots Q α cs D base nL LS ro (pc + 1) ls st h) : qG p l e Rm s m args below meth c cells slots Q α cs D base nL LS ro pc ls st h := by
  obtain ⟨v, i, n, r, rfl, hnw, hq⟩ := qlir_o hq
  obtain ⟨len, f, hn, h0, h1, h2, hq⟩ := qalg_o hq
  intro H locs lsR hP hD hS hl hnl hL hr
  refine va_last hx hb hSF.1 hP hD hS n 2 (by rw [qws_get hnw, hn]; rfl) rfl (z_vin h0 h2 h1) hdg fun H1 locs1 hP1 hD1 hS1 => ?_
  rw [z_cl h0 h2] at hP1 hD1
  have e1 : (qws α cs h).set n (α n, .inl (cs 2, len, .inr (.inl (vp_updL f i.toNat v)))) = qws α cs (qS h n (.inr (2, len, .inr (.inl (qU f i.toNat v))))) := by rw [← qws_set hnw]; rfl
  rw [e1] at hP1 hD1
  exact hK _ _ _ hq H1 locs1 lsR hP1 hD1 hS1 hl hnl hL (fun j hj => by rw [qS_ne (by omega)]; exact hr j hj)
theorem gs_arraylength (hx : p.tables.exec = Jvm.exec) (hb : c.code = cc) (hSF : qSF α cs D base Ls xs s) (hro : ro = qro Ls xs) {pc : Nat} (hdg : decode cc pc = .ok (.arraylength, 1)) (hq : qI C J R K .arraylength a b L ls st h) (hK : ∀ ls st h, K ls st h → qG p l e Rm s m args below meth c cells slots Q α cs D base nL LS ro (pc + 1) ls st h) : qG p l e Rm s m args below meth c cells slots Q α cs D base nL LS ro pc ls st h := by
  obtain ⟨n, r, rfl, hq⟩ := q1r_o hq
  obtain ⟨t, len, g, hn, ht, hq⟩ := qaln_o hq
  intro H locs lsR hP hD hS hl hnl hL hr
  have kk := hK _ _ _ hq H locs lsR hP hD hS hl hnl hL hr
  by_cases hnw : n < qNW
  · have htt : ∃ ty, (qtys cs)[t]? = some (cs t, ty) := by
      match t, ht with
      | 0, _ => exact ⟨_, rfl⟩
      | 1, _ => exact ⟨_, rfl⟩
      | 2, _ => exact ⟨_, rfl⟩
      | 3, _ => exact ⟨_, rfl⟩
      | 4, _ => exact ⟨_, rfl⟩
      | n + 5, h => omega
    obtain ⟨ty, htt⟩ := htt
    rcases g with f | f | f
    · exact va_alen hx hb hSF.1 hP n t (x := (len, .inl (fun j => Int32.ofInt (f j)))) (by rw [qws_get hnw, hn]; rfl) htt (q_ofNat len).symm hdg kk
    · exact va_alen hx hb hSF.1 hP n t (x := (len, .inr (.inl f))) (by rw [qws_get hnw, hn]; rfl) htt (q_ofNat len).symm hdg kk
    · exact va_alen hx hb hSF.1 hP n t (x := (len, .inr (.inr (.inr (.inr (fun j => (f j).map α)))))) (by rw [qws_get hnw, hn]; rfl) htt (q_ofNat len).symm hdg kk
  · have h3 := hr n (by omega)
    rw [hn, hro] at h3
    rcases g with f | f
    · rcases qro_ai h3.symm with ⟨rfl, -, rfl, rfl⟩ | ⟨rfl, -, rfl, rfl⟩ | ⟨k, hk, rfl, -, rfl, rfl⟩
      · exact va_tlen hx hb hSF.2.2.2.1 hS rfl hdg kk
      · obtain ⟨g1, g2, g3⟩ := hSF.2.2.2.2.1
        exact va_slen hx hb g1 (Nat.lt_of_lt_of_le g2 hSF.2.1) (Nat.not_le.mpr g2) hS hdg kk
      · obtain ⟨-, -, -, a4⟩ := hSF.2.2.2.2.2.2.1 k hk
        exact va_tlen hx hb a4 hS (q_ofNat _).symm hdg kk
    · exact (qro_al h3.symm).elim
end
