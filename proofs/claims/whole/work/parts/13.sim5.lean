/-! ===== the simulation: methods by contract, calls, returns, blocks ===== -/
def qSnd (l : Launch) (α : Nat → Nat) (cs : Nat → ClassId) (D : va_G) (base Ls : Nat) (xs : Nat → Int32) : qX := fun d mi lb ls st h R =>
  ∀ (p : Program) (e : Env) (Rm : Room) (s : State) (m : MethodId) (args : Array Value) (below : List Frame) (meth : Method) (c : Code) (cells slots : Nat) (Q : State → Prop), qFr p s m args meth c (qmd mi) → qSF α cs D base Ls xs s → qRm d Rm cells slots → qRet p l e Rm s m args below meth c cells slots Q α cs D base (qro Ls xs) (qmd mi) R →
    qG p l e Rm s m args below meth c cells slots Q α cs D base (qmd mi).2.2.1 (qmd mi).2.2.2.2.2 (qro Ls xs) (qnth (qpcs mi) lb 0) ls st h
theorem qnth_mem {α : Type} {d : α} : ∀ (l : List α) (i : Nat), i < l.length → qnth l i d ∈ l
  | [], i, h => absurd h (Nat.not_lt_zero i)
  | a :: _, 0, _ => List.mem_cons_self
  | _ :: r, i + 1, h => List.mem_cons_of_mem _ (qnth_mem r i (Nat.lt_of_succ_lt_succ h))
theorem qmd_mem {a : Nat} (h : a < qMD.length) : qmd a ∈ qMD := qnth_mem qMD a h
set_option maxRecDepth 100000 in
theorem qML_s : ∀ a, a < qMD.length → (qmd a).2.2.1 = qML a ∧ (qmd a).2.2.2.2.2 = qLSt a ∧ qnth (qpcs a) 0 0 = 0 := by decide +kernel
theorem qon_s : ∀ ci, ci < 9 → qon ci = (qcl ci).1 := by decide +kernel
theorem qsl_len (α : Nat → Nat) : ∀ av : List qV, (lg_sl (av.map (qtv α))).length = qcs av
  | [] => rfl
  | v :: r => by
    have ih := qsl_len α r
    have e : lg_sl ((v :: r).map (qtv α)) = (if (qtv α v).category = 2 then [Slot.val (qtv α v), Slot.second] else [Slot.val (qtv α v)]) ++ lg_sl (r.map (qtv α)) := rfl
    rw [e, List.length_append, ih, qcat_t, qcs]
    rcases v with z | x | n | n <;> rfl
theorem qEn_len : ∀ (n : Nat) (av : List qV), (qEn n av).length = n
  | 0, _ => rfl
  | n + 1, [] => by
    show (qEn n []).length + 1 = n + 1
    rw [qEn_len n []]
  | 1, .inr (.inl x) :: r => rfl
  | n + 2, .inr (.inl x) :: r => by
    show (qEn n r).length + 1 + 1 = n + 2
    rw [qEn_len n r]
  | n + 1, .inl z :: r => by
    show (qEn n r).length + 1 = n + 1
    rw [qEn_len n r]
  | n + 1, .inr (.inr o) :: r => by
    show (qEn n r).length + 1 = n + 1
    rw [qEn_len n r]
theorem qEn_mem (α : Nat → Nat) : ∀ (n : Nat) (av : List qV) (i j : Nat) (v : qV), (qEn n av)[j]? = some (some v) → (i + j, qtv α v) ∈ lv_args i (av.map (qtv α))
  | 0, _, i, j, v, h => by simp [qEn] at h
  | n + 1, [], i, j, v, h => by
    have e : qEn (n + 1) [] = none :: qEn n [] := rfl
    rw [e] at h
    cases j with
    | zero => simp at h
    | succ j =>
      rw [List.getElem?_cons_succ] at h
      have := qEn_mem α n [] i j v h
      simp [lv_args] at this
  | 1, .inr (.inl x) :: r, i, j, v, h => by
    have e : qEn 1 (.inr (.inl x) :: r) = [some (.inr (.inl x))] := rfl
    rw [e] at h
    cases j with
    | zero =>
      cases h
      exact List.mem_cons_self
    | succ j => simp at h
  | n + 2, .inr (.inl x) :: r, i, j, v, h => by
    have e : qEn (n + 2) (.inr (.inl x) :: r) = some (.inr (.inl x)) :: none :: qEn n r := rfl
    rw [e] at h
    cases j with
    | zero =>
      cases h
      exact List.mem_cons_self
    | succ j =>
      rw [List.getElem?_cons_succ] at h
      cases j with
      | zero => simp at h
      | succ j =>
        rw [List.getElem?_cons_succ] at h
        have := qEn_mem α n r (i + 2) j v h
        rw [show i + 2 + j = i + (j + 1 + 1) by omega] at this
        exact List.mem_cons_of_mem _ this
  | n + 1, .inl z :: r, i, j, v, h => by
    have e : qEn (n + 1) (.inl z :: r) = some (.inl z) :: qEn n r := rfl
    rw [e] at h
    cases j with
    | zero =>
      cases h
      exact List.mem_cons_self
    | succ j =>
      rw [List.getElem?_cons_succ] at h
      have := qEn_mem α n r (i + 1) j v h
      rw [show i + 1 + j = i + (j + 1) by omega] at this
      exact List.mem_cons_of_mem _ this
  | n + 1, .inr (.inr o) :: r, i, j, v, h => by
    have e : qEn (n + 1) (.inr (.inr o) :: r) = some (.inr (.inr o)) :: qEn n r := rfl
    rw [e] at h
    cases j with
    | zero =>
      cases h
      exact List.mem_cons_self
    | succ j =>
      rw [List.getElem?_cons_succ] at h
      have := qEn_mem α n r (i + 1) j v h
      rw [show i + 1 + j = i + (j + 1) by omega] at this
      rcases o with _ | o
      · exact List.mem_cons_of_mem _ this
      · exact List.mem_cons_of_mem _ this
theorem qEn_LS (LS : List Nat) : ∀ (n : Nat) (av : List qV) (i j : Nat) (x : Int64), qlsb LS i av = true → (qEn n av)[j]? = some (some (.inr (.inl x))) → i + j ∈ LS
  | 0, _, i, j, v, _, h => by simp [qEn] at h
  | n + 1, [], i, j, v, hb, h => by
    have e : qEn (n + 1) [] = none :: qEn n [] := rfl
    rw [e] at h
    cases j with
    | zero => simp at h
    | succ j =>
      rw [List.getElem?_cons_succ] at h
      have := qEn_mem (fun n => n) n [] i j _ h
      simp [lv_args] at this
  | 1, .inr (.inl x) :: r, i, j, v, hb, h => by
    have e : qEn 1 (.inr (.inl x) :: r) = [some (.inr (.inl x))] := rfl
    simp only [qlsb, Bool.and_eq_true, decide_eq_true_eq] at hb
    rw [e] at h
    cases j with
    | zero => exact hb.1
    | succ j => simp at h
  | n + 2, .inr (.inl x) :: r, i, j, v, hb, h => by
    have e : qEn (n + 2) (.inr (.inl x) :: r) = some (.inr (.inl x)) :: none :: qEn n r := rfl
    simp only [qlsb, Bool.and_eq_true, decide_eq_true_eq] at hb
    rw [e] at h
    cases j with
    | zero => exact hb.1
    | succ j =>
      rw [List.getElem?_cons_succ] at h
      cases j with
      | zero => simp at h
      | succ j =>
        rw [List.getElem?_cons_succ] at h
        have := qEn_LS LS n r (i + 2) j v hb.2 h
        rw [show i + 2 + j = i + (j + 1 + 1) by omega] at this
        exact this
  | n + 1, .inl z :: r, i, j, v, hb, h => by
    have e : qEn (n + 1) (.inl z :: r) = some (.inl z) :: qEn n r := rfl
    rw [e] at h
    cases j with
    | zero => cases h
    | succ j =>
      rw [List.getElem?_cons_succ] at h
      have := qEn_LS LS n r (i + 1) j v hb h
      rw [show i + 1 + j = i + (j + 1) by omega] at this
      exact this
  | n + 1, .inr (.inr o) :: r, i, j, v, hb, h => by
    have e : qEn (n + 1) (.inr (.inr o) :: r) = some (.inr (.inr o)) :: qEn n r := rfl
    rw [e] at h
    cases j with
    | zero => cases h
    | succ j =>
      rw [List.getElem?_cons_succ] at h
      have := qEn_LS LS n r (i + 1) j v hb h
      rw [show i + 1 + j = i + (j + 1) by omega] at this
      exact this
theorem qnar {a : Nat} {z : Int} (ha : a < 4) (h2 : a ≠ 2) (h : qfit a (.inl z)) : narrow (qkt a) (.int (Int32.ofInt z)) = .int (Int32.ofInt z) := by
  match a, ha, h2, h with
  | 0, _, _, _ => exact vp_nar_int _
  | 1, _, _, h =>
    rcases h with rfl | rfl
    · rfl
    · rfl
  | 3, _, _, h =>
    have e := q_narb h
    rw [vp_nar_byte] at e
    show Value.int (Int32.ofInt z).toInt8.toInt32 = _
    rw [e]
section
variable {p : Program} {l : Launch} {e : Env} {Rm : Room} {s : State} {m : MethodId} {args : Array Value} {below : List Frame} {meth : Method} {c : Code} {cells slots : Nat} {Q : State → Prop} {α : Nat → Nat} {cs : Nat → ClassId} {D : va_G} {base nL : Nat} {LS : List Nat} {ro : Nat → qC} {cc : ByteArray} {pc : Nat}
variable {C : Nat → List qV → qH → qR → Prop} {J : Nat → qL → List qV → qH → Prop} {R : qR} {K : qL → List qV → qH → Prop} {a b : Nat} {L : List Nat} {ls : qL} {st : List qV} {h : qH}
variable {Ls : Nat} {xs : Nat → Int32} {ow : Nat}
/-- the ways back of a method under a contract -/
theorem qRet_of {md : qMd} {R' : qR} (hF : qFr p s m args meth c md) : qRet p l e Rm s m args below meth c 0 0 (MQ below (qQc α cs D base ro R') args s 0 0 (fun q => base ≤ q)) α cs D base ro md R' := by
  obtain ⟨hx, hb, hml, hrt, hlocks, hown, hts⟩ := hF
  intro pcr r h' H locs lsR hR hd hP hD hS hr
  have hQ : ∀ t : State, t.heap = H → qQc α cs D base ro R' args s (.returned (r.map (qtv α))) t := fun t ht => ⟨⟨r, h', rfl, hR, by rw [ht]; exact hP, hD, hr⟩, hS.F ht⟩
  rcases r with _ | z | x | n | n
  · exact W.vret hx hb (hrt.trans hd.2) (fun t ht _ => hQ t ht) hS.2.2 hd.1 hlocks
  · obtain ⟨h1, a, h2, h3, h4, h5⟩ := hd
    exact W.zret (ty := qkt a) hx hb (hrt.trans h4) (qnar h2 h3 h5) (fun t ht _ => hQ t ht) hS.2.2 h1 hlocks
  · exact W.lret hx hb (hrt.trans hd.2) (fun t ht _ => hQ t ht) hS.2.2 hd.1 hlocks
  · exact hd.elim
  · exact W.aret (v := .ref (α n)) hx hb (hrt.trans hd.2) (Or.inl ⟨_, rfl⟩) (Or.inr ⟨_, rfl⟩) (fun t ht _ => hQ t ht) hS.2.2 hd.1 hlocks
theorem qMet {d : Nat} {av : List qV} {R' : qR} (ha : a < qMD.length) (hX : qSnd l α cs D base Ls xs d a 0 (qEn (qML a) av) [] h R') (hcs : qcs av ≤ qML a) (hls : qlsb (qLSt a) 0 av = true) (hro : ∀ n, qNW ≤ n → h n = qro Ls xs n) : Met l (qmd a).1 (qcdw (qmd a) :: TBL) (qrm d) (qPc α cs D base Ls xs av h) (qQc α cs D base (qro Ls xs) R') 0 0 (fun q => base ≤ q) := by
  obtain ⟨hpl, hmx, hm1, hm2, hcls⟩ := qMD_s _ (qmd_mem ha)
  obtain ⟨hML, hLS, hpc0⟩ := qML_s a ha
  refine Met.ofW (cc := (qmd a).2.1) (maxL := (qmd a).2.2.1) (ret := (qmd a).2.2.2.1) hpl rfl ?_
  intro p e s m args below meth c s₁ B hml hv
  obtain ⟨rfl, hP, hD, hSF⟩ := hv
  have hts0 := atoms_spec (ws := qcdw (qmd a) :: TBL) B.pre
  have hfr : qFr p s m (av.map (qtv α)).toArray meth c (qmd a) := ⟨B.exec, B.bytes, hml, B.returns, B.notSynchronized, by rw [← hcls]; exact findClass_of_methodNamed B.named, fun w hw => hts0 w (List.mem_cons_of_mem _ hw)⟩
  have hg := hX p e (headSpec (qcdw (qmd a) :: TBL) (qrm d)).room s m (av.map (qtv α)).toArray below meth c 0 0 (MQ below (qQc α cs D base (qro Ls xs) R') (av.map (qtv α)).toArray s 0 0 (fun q => base ≤ q)) hfr hSF ⟨Nat.le_refl _, Nat.le_refl _, Nat.le_refl _, Nat.le_refl _⟩ (qRet_of hfr)
  rw [hpc0] at hg
  rw [lg_entry_eq]
  have hl := lv_entry (av.map (qtv α)) (n := (qmd a).2.2.1) (by rw [qsl_len, hML]; exact hcs)
  refine hg s.heap [] _ hP hD va_S.rf (qlv_mono hl fun q hq => ?_) (by rw [qEn_len, hML]) (fun i x hi => ?_) hro
  · obtain ⟨v, h1, h2⟩ := qlv_mem.mp hq
    have := qEn_mem α _ _ 0 _ _ h1
    rw [Nat.zero_add, ← h2] at this
    exact this
  · rw [hLS]
    have := qEn_LS (qLSt a) _ _ 0 i x hls hi
    rw [Nat.zero_add] at this
    exact this
theorem q_rmap (r : Option qV) (rest : List qV) : (r.toList ++ rest).map (qtv α) = (r.map (qtv α)).toList ++ rest.map (qtv α) := by
  rw [List.map_append]
  cases r <;> rfl
theorem gs_invv {md : qMd} {d : Nat} (hF : qFr p s m args meth c md) (hnL : nL = md.2.2.1) (hSF : qSF α cs D base Ls xs s) (hro : ro = qro Ls xs) (hRm : qRm d Rm cells slots) {pc k ci : Nat} (hdg : decode md.2.1 pc = .ok (.invokevirtual k, 3)) (he : (md.2.2.2.2.1, k, a, b, ci) ∈ qVl) (hq : qinvv (qdn (qSnd l α cs D base Ls xs) d) K a b ci ls st h) (hK : ∀ ls st h, K ls st h → qG p l e Rm s m args below meth c cells slots Q α cs D base nL LS ro (pc + 3) ls st h) : qG p l e Rm s m args below meth c cells slots Q α cs D base nL LS ro pc ls st h := by
  obtain ⟨hx, hb, hml, hrt, hlocks, hown, hts⟩ := hF
  obtain ⟨⟨av, st'⟩, hpop, hq⟩ := qso_o hq
  obtain ⟨n, rest, hst', hq⟩ := q1r_o hq
  obtain ⟨fs, hn, hcs, R', hC, hk⟩ := qob_o hq
  obtain ⟨ys, hst, hlen, hav⟩ := qpop_o _ _ _ _ _ hpop
  obtain ⟨ha, hyc, hpar, hci⟩ := qVl_s _ he
  obtain ⟨hpl, hmx, hm1, hm2, hcls⟩ := qMD_s _ (qmd_mem ha)
  have hmx : (qmd a).2.2.1 ≤ 20 := hmx
  cases d with
  | zero => exact hC.elim
  | succ d =>
  obtain ⟨⟨h1, h2⟩, hX⟩ := hC
  subst hro
  subst hnL
  have hws : ∀ w ∈ wsV (qon md.2.2.2.2.1) k (qon ci) (qmd a).1 (qcdw (qmd a) :: TBL), w ∈ TBL := tb_app (qVl_w _ he) (fun w hw => (List.mem_cons.mp hw).elim (fun e => e ▸ qcd_all _ (qmd_mem ha)) (fun h => h))
  intro H locs lsR hP hD hS hl hnl hL hr
  have hM := qMet ha hX h1 h2 hr
  have hrecv : ∃ cellB : Cell, H[α n]? = some cellB ∧ cellB.vm.isStatics = false ∧ s.vm.findClass (qon ci) = some cellB.cls := by
    rcases hci with hci | hci
    · have hnw : n < qNW := by
        refine Nat.not_le.mp fun q => ?_
        have h3 := hr n q
        rw [hn] at h3
        have hci : ci < 9 := hci
        rcases qro_ob h3.symm with e | ⟨_, _, _, e, _⟩
        · omega
        · omega
      have hv := va_recv hSF.1 hP (qcl_in hci).1 (a := α n) (q0 := n) (fs := fs.map (qtv α)) (by rw [qws_get hnw, hn]; rfl)
      rw [← qon_s ci hci] at hv
      exact hv
    · have hci : ci = 11 := hci
      subst hci
      have hnw : qNW ≤ n := by
        refine Nat.not_lt.mp fun q => ?_
        obtain ⟨r, h3, -⟩ := hP n (α n, .inr (11, fs.map (qtv α))) (by rw [qws_get q, hn]; rfl)
        cases h3
      have h3 := hr n hnw
      rw [hn] at h3
      rcases qro_ob h3.symm with e | ⟨k0, hk0, rfl, -, -⟩
      · cases e
      obtain ⟨cell, c1, c2, c3, -⟩ := (hSF.2.2.2.2.2.2.1 k0 hk0).1.kept hS.2.1
      exact ⟨cell, c1, c2, c3⟩
  refine qgo (R' := R') (va_runV (Ts := TBL) (own := qon md.2.2.2.2.1) (C := qon ci) (b := α n) (As := av.map (qtv α)) (rest := rest.map (qtv α)) (g := F0 m pc lsR (st.map (qtv α))) ⟨hx, hb, hml, hown, hts⟩ hM (cwV b hts (tb_good hws) rfl rfl rfl ⟨hyc, hm1, hm2, hpar⟩ ⟨hRm.1, by show 8 + ((qmd a).2.2.1 + 11) + (40 * d + 40) ≤ Rm.locals; have := hRm.2.1; omega⟩) ⟨qPc_blind, hrecv, fun U hU hW => ⟨rfl, by rw [hU]; exact hP, hD, qSF_go hSF hW hU hS⟩⟩ rfl (by rw [List.length_map, hav]; simp [hlen]) hl.1 ?_ (lv_room (by rw [qcs_t]; exact hcs)) hdg ⟨hRm.2.2.1, hRm.2.2.2⟩) hS fun r h' H1 locs1 hR1 hP1 hD1 hS1 hr1 => ?_
  · show st.map (qtv α) = _
    have hst' : st' = .inr (.inr (some n)) :: rest := hst'
    rw [hst, hst', hav]
    simp [qtv]
  · have kk := hK _ _ _ (hk r h' hR1) H1 locs1 lsR hP1 hD1 hS1 hl hnl hL hr1
    rw [q_rmap] at kk
    exact kk
theorem gs_invs {md : qMd} {d : Nat} (hF : qFr p s m args meth c md) (hnL : nL = md.2.2.1) (hSF : qSF α cs D base Ls xs s) (hro : ro = qro Ls xs) (hRm : qRm d Rm cells slots) {pc k : Nat} (hdg : decode md.2.1 pc = .ok (.invokestatic k, 3)) (he : (md.2.2.2.2.1, k, a, b) ∈ qSl) (hq : qinvs (qdn (qSnd l α cs D base Ls xs) d) K a b ls st h) (hK : ∀ ls st h, K ls st h → qG p l e Rm s m args below meth c cells slots Q α cs D base nL LS ro (pc + 3) ls st h) : qG p l e Rm s m args below meth c cells slots Q α cs D base nL LS ro pc ls st h := by
  obtain ⟨hx, hb, hml, hrt, hlocks, hown, hts⟩ := hF
  obtain ⟨⟨av, rest⟩, hpop, hcs, R', hC, hk⟩ := qso_o hq
  obtain ⟨ys, hst, hlen, hav⟩ := qpop_o _ _ _ _ _ hpop
  obtain ⟨ha, hpar⟩ := qSl_s _ he
  obtain ⟨hpl, hmx, hm1, hm2, hcls⟩ := qMD_s _ (qmd_mem ha)
  have hmx : (qmd a).2.2.1 ≤ 20 := hmx
  cases d with
  | zero => exact hC.elim
  | succ d =>
  obtain ⟨⟨h1, h2⟩, hX⟩ := hC
  subst hro
  subst hnL
  have hws : ∀ w ∈ va_wsS (qon md.2.2.2.2.1) k (qmd a).1 (qcdw (qmd a) :: TBL), w ∈ TBL := tb_app (fun w hw => qSl_w w (List.mem_flatMap.mpr ⟨_, he, hw⟩)) (fun w hw => (List.mem_cons.mp hw).elim (fun e => e ▸ qcd_all _ (qmd_mem ha)) (fun h => h))
  intro H locs lsR hP hD hS hl hnl hL hr
  have hM := qMet ha hX h1 h2 hr
  refine qgo (R' := R') (va_runS (Ts := TBL) (own := qon md.2.2.2.2.1) (As := av.map (qtv α)) (rest := rest.map (qtv α)) (g := F0 m pc lsR (st.map (qtv α))) ⟨hx, hb, hml, hown, hts⟩ hM (va_cwS b hts (tb_good hws) rfl rfl rfl ⟨hm1, hm2, hpar⟩ ⟨hRm.1, by show 8 + ((qmd a).2.2.1 + 11) + (40 * d + 40) ≤ Rm.locals; have := hRm.2.1; omega⟩) ⟨qPc_blind, fun U hU hW => ⟨rfl, by rw [hU]; exact hP, hD, qSF_go hSF hW hU hS⟩⟩ rfl (by rw [List.length_map, hav]; simp [hlen]) hl.1 ?_ (lv_room (by rw [qcs_t]; exact hcs)) hdg ⟨hRm.2.2.1, hRm.2.2.2⟩) hS fun r h' H1 locs1 hR1 hP1 hD1 hS1 hr1 => ?_
  · show st.map (qtv α) = _
    rw [hst, hav]
    simp
  · have kk := hK _ _ _ (hk r h' hR1) H1 locs1 lsR hP1 hD1 hS1 hl hnl hL hr1
    rw [q_rmap] at kk
    exact kk
theorem gs_invn {md : qMd} {d : Nat} (hF : qFr p s m args meth c md) (hnL : nL = md.2.2.1) (hSF : qSF α cs D base Ls xs s) (hro : ro = qro Ls xs) (hRm : qRm d Rm cells slots) {pc k : Nat} (hdg : decode md.2.1 pc = .ok (.invokestatic k, 3)) (he : (md.2.2.2.2.1, k, a, b) ∈ qNl) (hq : qinvs (qdn (qSnd l α cs D base Ls xs) d) K a b ls st h) (hK : ∀ ls st h, K ls st h → qG p l e Rm s m args below meth c cells slots Q α cs D base nL LS ro (pc + 3) ls st h) : qG p l e Rm s m args below meth c cells slots Q α cs D base nL LS ro pc ls st h := by
  obtain ⟨hx, hb, hml, hrt, hlocks, hown, hts⟩ := hF
  obtain ⟨⟨av, rest⟩, hpop, hcs, R', hC, hk⟩ := qso_o hq
  obtain ⟨ys, hst, hlen, hav⟩ := qpop_o _ _ _ _ _ hpop
  obtain ⟨ha, hpar⟩ := qNl_s _ he
  obtain ⟨hpl, hmx, hm1, hm2, hcls⟩ := qMD_s _ (qmd_mem ha)
  have hmx : (qmd a).2.2.1 ≤ 20 := hmx
  cases d with
  | zero => exact hC.elim
  | succ d =>
  obtain ⟨⟨h1, h2⟩, hX⟩ := hC
  subst hro
  subst hnL
  have hwn : ∀ w ∈ qNw (md.2.2.2.2.1, k, a, b), w.before args s = true := fun w hw => hts w (qNl_w w (List.mem_flatMap.mpr ⟨_, he, hw⟩))
  have hws : ∀ w ∈ qcdw (qmd a) :: TBL, w ∈ TBL := fun w hw => (List.mem_cons.mp hw).elim (fun e => e ▸ qcd_all _ (qmd_mem ha)) (fun h => h)
  intro H locs lsR hP hD hS hl hnl hL hr
  have hM := qMet ha hX h1 h2 hr
  refine qgo (R' := R') (va_runSN (Ts := TBL) (own := qon md.2.2.2.2.1) (host := "PlateCuts") (As := av.map (qtv α)) (rest := rest.map (qtv α)) (g := F0 m pc lsR (st.map (qtv α))) ⟨hx, hb, hml, hown, hts⟩ hM ⟨va_cnB b hts (tb_good hws) rfl rfl rfl (hSF.2.2.2.2.2.2.2.2 _ he) (hwn _ (List.mem_cons_of_mem _ List.mem_cons_self)) ⟨hm1, hm2, hpar⟩ ⟨hRm.1, by show 8 + ((qmd a).2.2.1 + 11) + (40 * d + 40) ≤ Rm.locals; have := hRm.2.1; omega⟩, hwn _ List.mem_cons_self, trivial⟩ ⟨qPc_blind, fun U hU hW => ⟨rfl, by rw [hU]; exact hP, hD, qSF_go hSF hW hU hS⟩⟩ rfl (by rw [List.length_map, hav]; simp [hlen]) hl.1 ?_ (lv_room (by rw [qcs_t]; exact hcs)) hdg ⟨hRm.2.2.1, hRm.2.2.2⟩) hS fun r h' H1 locs1 hR1 hP1 hD1 hS1 hr1 => ?_
  · show st.map (qtv α) = _
    rw [hst, hav]
    simp
  · have kk := hK _ _ _ (hk r h' hR1) H1 locs1 lsR hP1 hD1 hS1 hl hnl hL hr1
    rw [q_rmap] at kk
    exact kk
end
