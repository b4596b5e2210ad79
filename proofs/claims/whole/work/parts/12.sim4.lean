/-! ===== the simulation: copies, Math, switches, calls, returns ===== -/
section
variable {p : Program} {l : Launch} {e : Env} {Rm : Room} {s : State} {m : MethodId} {args : Array Value} {below : List Frame} {meth : Method} {c : Code} {cells slots : Nat} {Q : State → Prop} {α : Nat → Nat} {cs : Nat → ClassId} {D : va_G} {base nL : Nat} {LS : List Nat} {ro : Nat → qC} {cc : ByteArray} {pc : Nat}
variable {C : Nat → List qV → qH → qR → Prop} {J : Nat → qL → List qV → qH → Prop} {R : qR} {K : qL → List qV → qH → Prop} {a b : Nat} {L : List Nat} {ls : qL} {st : List qV} {h : qH}
variable {Ls : Nat} {xs : Nat → Int32} {ow : Nat}
theorem q_cpyi (f g : Nat → Int) (sp dp n : Nat) : va_cpy (fun j => Int32.ofInt (f j)) (fun j => Int32.ofInt (g j)) sp dp n = fun j => Int32.ofInt (qcpy f g sp dp n j) := by
  funext j
  unfold va_cpy qcpy
  split <;> rfl
theorem gs_copy (hx : p.tables.exec = Jvm.exec) (hb : c.code = cc) (hml : c.maxLocals = nL) (hown : s.vm.findClass (qon ow) = some m.cls) (hts : ∀ w ∈ TBL, w.before args s = true) (hSF : qSF α cs D base Ls xs s) {d : Nat} (hRm : qRm d Rm cells slots) {pc k : Nat} (hdg : decode cc pc = .ok (.invokestatic k, 3)) (he : (ow, k) ∈ qAl) (hq : qcopy K ls st h) (hK : ∀ ls st h, K ls st h → qG p l e Rm s m args below meth c cells slots Q α cs D base nL LS ro (pc + 3) ls st h) : qG p l e Rm s m args below meth c cells slots Q α cs D base nL LS ro pc ls st h := by
  obtain ⟨sr, sp, dd, dp, n, r, rfl, ⟨g1, g2, g3, g4, g5, g6, g7, g8, g9⟩, hq⟩ := qcp5_o hq
  have hw : ∀ w ∈ qAw (ow, k), w.before args s = true := fun w hw => hts w (qAl_w w (List.mem_flatMap.mpr ⟨_, he, hw⟩))
  have w1 := hw _ (List.mem_cons_self)
  have w2 := hw _ (List.mem_cons_of_mem _ List.mem_cons_self)
  have w3 := hw _ (List.mem_cons_of_mem _ (List.mem_cons_of_mem _ List.mem_cons_self))
  have w4 := hw _ (List.mem_cons_of_mem _ (List.mem_cons_of_mem _ (List.mem_cons_of_mem _ List.mem_cons_self)))
  have hloc : ((r.map (qtv α)).map fun v => v.category).sum + (nativeFrameWords "java/lang/System" "arraycopy" 5 + 11) ≤ Rm.locals := by
    rw [qcs_t]
    have e : nativeFrameWords "java/lang/System" "arraycopy" 5 = 7 := by decide +kernel
    rw [e]
    have := hRm.2.1
    omega
  have hfr : 1 ≤ Rm.frames := by have := hRm.1; omega
  intro H locs lsR hP hD hS hl hnl hL hr
  have hsz : c.maxLocals = lsR.size := by rw [hml, hl.1]
  rcases qcpc_o hq with ⟨n0, f, n1, g, hs, hd, ⟨h5, h6⟩, hq⟩ | ⟨n0, f, n1, g, hs, hd, ⟨h5, h6⟩, hq⟩
  · refine va_copyi (D := D) (cl := vwCl) (tys := qtys cs) (A := fun q => base ≤ q) (ty := .int) hx hb hsz hown w1 w2 w3 w4 hSF.1 hP hD hS sr dd 0 0 (by rw [qws_get g1, hs]; rfl) (by rw [qws_get g2, hd]; rfl) rfl rfl rfl (z_nneg g5 g8) (z_nneg g4 g7) (z_nneg g3 g6) (by rw [z_cl g5 g8, z_cl g3 g6]; omega) (by rw [z_cl g4 g7, z_cl g3 g6]; omega) (fun _ _ => rfl) hfr hloc hdg fun H1 locs1 hP1 hD1 hS1 => ?_
    rw [z_cl g5 g8, z_cl g4 g7, z_cl g3 g6, q_cpyi] at hP1 hD1
    have e1 : (qws α cs h).set dd (α dd, .inl (cs 0, n1, .inl (fun j => Int32.ofInt (qcpy f g sp.toNat dp.toNat n.toNat j)))) = qws α cs (qS h dd (.inr (0, n1, .inl (qcpy f g sp.toNat dp.toNat n.toNat)))) := by rw [← qws_set g2]; rfl
    rw [e1] at hP1 hD1
    exact hK _ _ _ hq H1 locs1 lsR hP1 hD1 hS1 hl hnl hL (fun j hj => by rw [qS_ne (by omega)]; exact hr j hj)
  · refine va_copyl (D := D) (cl := vwCl) (tys := qtys cs) (A := fun q => base ≤ q) (ty := .long) hx hb hsz hown w1 w2 w3 w4 hSF.1 hP hD hS sr dd 2 2 (by rw [qws_get g1, hs]; rfl) (by rw [qws_get g2, hd]; rfl) rfl rfl rfl (z_nneg g5 g8) (z_nneg g4 g7) (z_nneg g3 g6) (by rw [z_cl g5 g8, z_cl g3 g6]; omega) (by rw [z_cl g4 g7, z_cl g3 g6]; omega) (fun _ _ => rfl) hfr hloc hdg fun H1 locs1 hP1 hD1 hS1 => ?_
    rw [z_cl g5 g8, z_cl g4 g7, z_cl g3 g6] at hP1 hD1
    have e1 : (qws α cs h).set dd (α dd, .inl (cs 2, n1, .inr (.inl (va_cpy f g sp.toNat dp.toNat n.toNat)))) = qws α cs (qS h dd (.inr (2, n1, .inr (.inl (qcpy f g sp.toNat dp.toNat n.toNat))))) := by rw [← qws_set g2]; rfl
    rw [e1] at hP1 hD1
    exact hK _ _ _ hq H1 locs1 lsR hP1 hD1 hS1 hl hnl hL (fun j hj => by rw [qS_ne (by omega)]; exact hr j hj)
theorem gs_max (hx : p.tables.exec = Jvm.exec) (hb : c.code = cc) (hml : c.maxLocals = nL) (hown : s.vm.findClass (qon ow) = some m.cls) (hts : ∀ w ∈ TBL, w.before args s = true) {d : Nat} (hRm : qRm d Rm cells slots) {pc k : Nat} (hdg : decode cc pc = .ok (.invokestatic k, 3)) (he : (ow, k, 1) ∈ qMl) (hq : q2i st (fun x y st => qin x ∧ qin y ∧ qcs st ≤ 8 ∧ K ls (.inl (max x y) :: st) h)) (hK : ∀ ls st h, K ls st h → qG p l e Rm s m args below meth c cells slots Q α cs D base nL LS ro (pc + 3) ls st h) : qG p l e Rm s m args below meth c cells slots Q α cs D base nL LS ro pc ls st h := by
  obtain ⟨x, y, r, rfl, h1, h2, h3, hq⟩ := q2i_o hq
  have hw : ∀ w ∈ qMw (ow, k, 1), w.before args s = true := fun w hw => hts w (qMl_w w (List.mem_flatMap.mpr ⟨_, he, hw⟩))
  have w1 := hw _ (List.mem_cons_self)
  have w2 := hw _ (List.mem_cons_of_mem _ List.mem_cons_self)
  have w3 := hw _ (List.mem_cons_of_mem _ (List.mem_cons_of_mem _ List.mem_cons_self))
  have w4 := hw _ (List.mem_cons_of_mem _ (List.mem_cons_of_mem _ (List.mem_cons_of_mem _ List.mem_cons_self)))
  intro H locs lsR hP hD hS hl hnl hL hr
  have hsz : c.maxLocals = lsR.size := by rw [hml, hl.1]
  refine va_mmax hx hb hsz hown w1 w2 w3 w4 (by have := hRm.1; omega) (by rw [qcs_t]; have := hRm.2.1; omega) hRm.2.2.1 hRm.2.2.2 hdg ?_
  rw [z_max h1 h2]
  exact hK _ _ _ hq H locs lsR hP hD hS hl hnl hL hr
theorem gs_min (hx : p.tables.exec = Jvm.exec) (hb : c.code = cc) (hml : c.maxLocals = nL) (hown : s.vm.findClass (qon ow) = some m.cls) (hts : ∀ w ∈ TBL, w.before args s = true) {d : Nat} (hRm : qRm d Rm cells slots) {pc k : Nat} (hdg : decode cc pc = .ok (.invokestatic k, 3)) (he : (ow, k, 2) ∈ qMl) (hq : q2i st (fun x y st => qin x ∧ qin y ∧ qcs st ≤ 8 ∧ K ls (.inl (min x y) :: st) h)) (hK : ∀ ls st h, K ls st h → qG p l e Rm s m args below meth c cells slots Q α cs D base nL LS ro (pc + 3) ls st h) : qG p l e Rm s m args below meth c cells slots Q α cs D base nL LS ro pc ls st h := by
  obtain ⟨x, y, r, rfl, h1, h2, h3, hq⟩ := q2i_o hq
  have hw : ∀ w ∈ qMw (ow, k, 2), w.before args s = true := fun w hw => hts w (qMl_w w (List.mem_flatMap.mpr ⟨_, he, hw⟩))
  have w1 := hw _ (List.mem_cons_self)
  have w2 := hw _ (List.mem_cons_of_mem _ List.mem_cons_self)
  have w3 := hw _ (List.mem_cons_of_mem _ (List.mem_cons_of_mem _ List.mem_cons_self))
  have w4 := hw _ (List.mem_cons_of_mem _ (List.mem_cons_of_mem _ (List.mem_cons_of_mem _ List.mem_cons_self)))
  intro H locs lsR hP hD hS hl hnl hL hr
  have hsz : c.maxLocals = lsR.size := by rw [hml, hl.1]
  refine va_mmin hx hb hsz hown w1 w2 w3 w4 (by have := hRm.1; omega) (by rw [qcs_t]; have := hRm.2.1; omega) hRm.2.2.1 hRm.2.2.2 hdg ?_
  rw [z_min h1 h2]
  exact hK _ _ _ hq H locs lsR hP hD hS hl hnl hL hr
theorem qsw_o {x : Int} {P : Nat → Prop} {dl : Nat} : ∀ (L : List Nat) (lo : Int), qsw x P dl lo L → ((x < lo ∨ lo + (L.length : Int) ≤ x) → P dl) ∧ ∀ (k q : Nat), L[k]? = some q → x = lo + k → P q
  | [], lo, h => ⟨fun _ => h, fun k q hk => by simp at hk⟩
  | q0 :: r, lo, h => by
    obtain ⟨h1, h2⟩ := h
    refine ⟨fun hx => ?_, fun k q hk hx => ?_⟩
    · have hne : ¬ x = lo := by
        simp only [List.length_cons] at hx
        omega
      refine (qsw_o r (lo + 1) (h2 hne)).1 ?_
      simp only [List.length_cons] at hx
      omega
    · cases k with
      | zero =>
        rw [List.getElem?_cons_zero] at hk
        cases hk
        exact h1 (by omega)
      | succ k =>
        rw [List.getElem?_cons_succ] at hk
        exact (qsw_o r (lo + 1) (h2 (by omega))).2 k q hk (by omega)
theorem gs_table (hx : p.tables.exec = Jvm.exec) (hb : c.code = cc) {pcs : List Nat} {pc len : Nat} {d lo hi : Int} {offs : Array Int} (hdg : decode cc pc = .ok (.tableswitch d lo hi offs, len)) (hd : (pc : Int) + d = ((qnth pcs a 0 : Nat) : Int)) (hhi : hi + 1 - lo = (L.length : Int)) (ho : offs.toList.map (fun o => (pc : Int) + o) = L.map (fun k => ((qnth pcs k 0 : Nat) : Int))) (hq : qI C J R K (.tableswitch d lo hi offs) a b L ls st h) (hj : ∀ k ls st h, J k ls st h → qG p l e Rm s m args below meth c cells slots Q α cs D base nL LS ro (qnth pcs k 0) ls st h) : qG p l e Rm s m args below meth c cells slots Q α cs D base nL LS ro pc ls st h := by
  obtain ⟨x, r, rfl, h1, hq⟩ := q1i_o hq
  obtain ⟨q1, q2⟩ := qsw_o _ _ hq
  intro H locs lsR hP hD hS hl hnl hL hr
  by_cases hxx : x < lo ∨ lo + (L.length : Int) ≤ x
  · refine lv_tableOut hx hb hdg ?_ hd (hj _ _ _ _ (q1 hxx) H locs lsR hP hD hS hl hnl hL hr)
    rw [z_t h1]
    omega
  · obtain ⟨k, hk⟩ : ∃ k : Nat, x = lo + k := ⟨(x - lo).toNat, by omega⟩
    have hkL : k < L.length := by omega
    have hlen : offs.toList.length = L.length := by
      have := congrArg List.length ho
      simpa using this
    have hko : k < offs.size := by rw [← Array.length_toList]; omega
    have hlk : L[k]? = some L[k] := List.getElem?_eq_getElem hkL
    have hok : offs[k]? = some offs[k] := Array.getElem?_eq_getElem hko
    have hpc : (pc : Int) + offs[k] = ((qnth pcs L[k] 0 : Nat) : Int) := by
      have e := congrArg (fun l => l[k]?) ho
      simp only [List.getElem?_map, Array.getElem?_toList, hok, hlk, Option.map_some] at e
      exact Option.some.inj e
    refine lv_tableIn (off := offs[k]) hx hb hdg (by rw [z_t h1]; omega) (by rw [z_t h1]; omega) ?_ hpc (hj _ _ _ _ (q2 k _ hlk hk) H locs lsR hP hD hS hl hnl hL hr)
    rw [z_t h1, show (x - lo).toNat = k by omega]
    exact hok
theorem qlk_o {x : Int} {P : Nat → Prop} {dl : Nat} {pcs : List Nat} {pc : Nat} {d : Int} (hd : (pc : Int) + d = ((qnth pcs dl 0 : Nat) : Int)) : ∀ (ps : List (Int × Int)) (L : List Nat), ps.map (fun o => (pc : Int) + o.2) = L.map (fun k => ((qnth pcs k 0 : Nat) : Int)) → qlk x P dl (ps.map Prod.fst) L → ∃ k, P k ∧ (pc : Int) + Op.lookupswitch.offset ps d x = ((qnth pcs k 0 : Nat) : Int)
  | [], [], _, h => ⟨dl, h, hd⟩
  | [], _ :: _, e, _ => by simp at e
  | _ :: _, [], e, _ => by simp at e
  | (a, o) :: ps, k :: L, e, h => by
    simp only [List.map_cons, List.cons.injEq] at e
    obtain ⟨h1, h2⟩ := h
    rw [Op.lookupswitch.offset_cons]
    by_cases hx : x = a
    · rw [if_pos hx.symm]
      exact ⟨k, h1 hx, e.1⟩
    · rw [if_neg (Ne.symm hx)]
      exact qlk_o hd ps L e.2 (h2 hx)
theorem gs_lookup (hx : p.tables.exec = Jvm.exec) (hb : c.code = cc) {pcs : List Nat} {pc len : Nat} {d : Int} {ps : Array (Int × Int)} (hdg : decode cc pc = .ok (.lookupswitch d ps, len)) (hd : (pc : Int) + d = ((qnth pcs a 0 : Nat) : Int)) (hp : (ps.toList.zip (ps.toList.drop 1)).all (fun (a, next) => a.1 < next.1) = true) (ho : ps.toList.map (fun o => (pc : Int) + o.2) = L.map (fun k => ((qnth pcs k 0 : Nat) : Int))) (hq : qI C J R K (.lookupswitch d ps) a b L ls st h) (hj : ∀ k ls st h, J k ls st h → qG p l e Rm s m args below meth c cells slots Q α cs D base nL LS ro (qnth pcs k 0) ls st h) : qG p l e Rm s m args below meth c cells slots Q α cs D base nL LS ro pc ls st h := by
  obtain ⟨x, r, rfl, h1, hq⟩ := q1i_o hq
  obtain ⟨k, hk, ht⟩ := qlk_o hd _ _ ho hq
  intro H locs lsR hP hD hS hl hnl hL hr
  exact lv_lookup hx hb hdg hp (by rw [z_t h1]) ht (hj _ _ _ _ hk H locs lsR hP hD hS hl hnl hL hr)
/-- a return instruction that fits the answer -/
def qretD (md : qMd) (pcr : Nat) (r : Option qV) : Prop := match r with
  | none => decode md.2.1 pcr = .ok (.return_, 1) ∧ md.2.2.2.1 = none
  | some (.inl z) => decode md.2.1 pcr = .ok (.ireturn, 1) ∧ ∃ a, a < 4 ∧ a ≠ 2 ∧ md.2.2.2.1 = some (qkt a) ∧ qfit a (.inl z)
  | some (.inr (.inl _)) => decode md.2.1 pcr = .ok (.lreturn, 1) ∧ md.2.2.2.1 = some .long
  | some (.inr (.inr (some _))) => decode md.2.1 pcr = .ok (.areturn, 1) ∧ md.2.2.2.1 = some (.object "PlateCuts$Cuts")
  | _ => False
end
def qRet (p : Program) (l : Launch) (e : Env) (Rm : Room) (s : State) (m : MethodId) (args : Array Value) (below : List Frame) (meth : Method) (c : Code) (cells slots : Nat) (Q : State → Prop) (α : Nat → Nat) (cs : Nat → ClassId) (D : va_G) (base : Nat) (ro : Nat → qC) (md : qMd) (R : qR) : Prop :=
  ∀ (pcr : Nat) (r : Option qV) (h : qH) (H : Heap) (locs : List Loc) (lsR : Array Slot), R r h → qretD md pcr r → va_P D vwCl (qws α cs h) H → va_D (fun q => base ≤ q) (qws α cs h) → va_S (fun q => base ≤ q) s.heap H locs → (∀ n, qNW ≤ n → h n = ro n) → W p l e Rm s m args below meth c H locs cells slots Q (F0 m pcr lsR (r.toList.map (qtv α)))
/-- what a call leaves -/
def qQc (α : Nat → Nat) (cs : Nat → ClassId) (D : va_G) (base : Nat) (ro : Nat → qC) (R' : qR) : Array Value → State → Outcome → State → Prop := fun _ st oc t =>
  (∃ (r : Option qV) (h' : qH), oc = .returned (r.map (qtv α)) ∧ R' r h' ∧ va_P D vwCl (qws α cs h') t.heap ∧ va_D (fun q => base ≤ q) (qws α cs h') ∧ ∀ n, qNW ≤ n → h' n = ro n) ∧ va_F (fun q => base ≤ q) st t
def qPc (α : Nat → Nat) (cs : Nat → ClassId) (D : va_G) (base Ls : Nat) (xs : Nat → Int32) (av : List qV) (h : qH) : Array Value → State → Prop := va_Pc (av.map (qtv α)) (fun U => va_P D vwCl (qws α cs h) U.heap ∧ va_D (fun q => base ≤ q) (qws α cs h) ∧ qSF α cs D base Ls xs U)
abbrev qrm (d : Nat) : Room := { frames := d + 1, cells := 0, slots := 0, locals := 40 * d + 40 }
section
variable {p : Program} {l : Launch} {e : Env} {Rm : Room} {s : State} {m : MethodId} {args : Array Value} {below : List Frame} {meth : Method} {c : Code} {cells slots : Nat} {Q : State → Prop} {α : Nat → Nat} {cs : Nat → ClassId} {D : va_G} {base nL : Nat} {LS : List Nat} {ro : Nat → qC} {cc : ByteArray} {pc : Nat}
variable {C : Nat → List qV → qH → qR → Prop} {J : Nat → qL → List qV → qH → Prop} {R : qR} {K : qL → List qV → qH → Prop} {a b : Nat} {L : List Nat} {ls : qL} {st : List qV} {h : qH}
variable {Ls : Nat} {xs : Nat → Int32} {ow : Nat}
theorem qgo {R' : qR} {rest : List Value} {st0 : List Value} {lsR : Array Slot} {H : Heap} {locs : List Loc} {aa : Array Value} (hr : va_Run p l e Rm s m args below meth c H locs cells slots 0 0 (F0 m pc lsR st0) rest (qQc α cs D base ro R' aa) (fun q => base ≤ q)) (hS : va_S (fun q => base ≤ q) s.heap H locs)
    (kk : ∀ (r : Option qV) (h' : qH) (H1 : Heap) (locs1 : List Loc), R' r h' → va_P D vwCl (qws α cs h') H1 → va_D (fun q => base ≤ q) (qws α cs h') → va_S (fun q => base ≤ q) s.heap H1 locs1 → (∀ n, qNW ≤ n → h' n = ro n) → W p l e Rm s m args below meth c H1 locs1 cells slots Q (F0 m (pc + 3) lsR ((r.map (qtv α)).toList ++ rest))) : W p l e Rm s m args below meth c H locs cells slots Q (F0 m pc lsR st0) := by
  intro T hT X
  obtain ⟨v, st₀, t, T', L1, h0, X', hL, e1, e2, ⟨⟨r, h', hv, hp, hP1, hD1, hr1⟩, hz, hk⟩, st⟩ := hr T hT X
  cases hv
  rw [h0] at hz hk
  rw [← e1] at hP1
  obtain ⟨t2, a1, b1⟩ := kk r h' T'.heap (locs ++ L1) hp hP1 hD1 ⟨Nat.le_trans hS.1 (by rw [e1]; exact hz), fun q h1 h2 => by rw [e1, hk q (Nat.lt_of_lt_of_le h1 hS.1) h2]; exact hS.2.1 q h1 h2, fun q hq => by
      rcases List.mem_append.mp hq with h | h
      · exact hS.2.2 q h
      · exact hL q h⟩ hr1 T' rfl X'
  exact ⟨t2, st t2 a1, b1⟩
theorem qpop_o : ∀ (n : Nat) (st acc av rest : List qV), qpop n st acc = some (av, rest) → ∃ ys, st = ys ++ rest ∧ ys.length = n ∧ av = ys.reverse ++ acc
  | 0, st, acc, av, rest, h => by
    cases h
    exact ⟨[], rfl, rfl, rfl⟩
  | n + 1, [], acc, av, rest, h => by cases h
  | n + 1, v :: st, acc, av, rest, h => by
    obtain ⟨ys, h1, h2, h3⟩ := qpop_o n st (v :: acc) av rest h
    exact ⟨v :: ys, by rw [h1]; rfl, by simp [h2], by rw [h3]; simp⟩
theorem qPc_blind {av : List qV} : FrameBlind (qPc α cs D base Ls xs av h) := fun a U g mk hp => ⟨hp.1, hp.2.1, hp.2.2.1, qSF_call hp.2.2.2⟩
end
