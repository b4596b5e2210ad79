/-! ===== the simulation: a block ===== -/
section
variable {p : Program} {l : Launch} {e : Env} {Rm : Room} {s : State} {m : MethodId} {args : Array Value} {below : List Frame} {meth : Method} {c : Code} {cells slots : Nat} {Q : State → Prop} {α : Nat → Nat} {cs : Nat → ClassId} {D : va_G} {base : Nat} {Ls : Nat} {xs : Nat → Int32} {md : qMd} {pcs : List Nat} {d : Nat} {J : Nat → qL → List qV → qH → Prop} {R : qR}
theorem q_sto {n b : Nat} (h : qsto md n b = true) : n < md.2.2.1 ∧ (b ≠ 0 ∨ ∀ j ∈ md.2.2.2.2.2, j + 1 ≠ n) := by
  unfold qsto at h
  simp only [Bool.and_eq_true, Bool.or_eq_true, decide_eq_true_eq, List.all_eq_true] at h
  exact h
set_option maxHeartbeats 4000000 in
theorem qsimI {K : qL → List qV → qH → Prop} {i : Instr} {a b : Nat} {L : List Nat} {pc : Nat} {ls : qL} {st : List qV} {h : qH} (hF : qFr p s m args meth c md) (hSF : qSF α cs D base Ls xs s) (hRm : qRm d Rm cells slots) (hret : qRet p l e Rm s m args below meth c cells slots Q α cs D base (qro Ls xs) md R) (hJ : ∀ k ls st h, J k ls st h → qG p l e Rm s m args below meth c cells slots Q α cs D base md.2.2.1 md.2.2.2.2.2 (qro Ls xs) (qnth pcs k 0) ls st h)
    (hne : i ≠ .nop) (hdg : decode md.2.1 pc = .ok (i, qLen i b)) (hst : qst md pcs pc i a b L = true) (hq : qI (qdn (qSnd l α cs D base Ls xs) d) J R K i a b L ls st h) (hK : ∀ ls st h, K ls st h → qG p l e Rm s m args below meth c cells slots Q α cs D base md.2.2.1 md.2.2.2.2.2 (qro Ls xs) (pc + qLen i b) ls st h) : qG p l e Rm s m args below meth c cells slots Q α cs D base md.2.2.1 md.2.2.2.2.2 (qro Ls xs) pc ls st h := by
  have hF0 := hF
  obtain ⟨hx, hb, hml, hrt, hlocks, hown, hts⟩ := hF
  cases i with
  | iadd => exact gs_iadd hx hb hdg hq hK
  | isub => exact gs_isub hx hb hdg hq hK
  | imul => exact gs_imul hx hb hdg hq hK
  | idiv => exact gs_idiv hx hb hdg hq hK
  | irem => exact gs_irem hx hb hdg hq hK
  | iand => exact gs_iand hx hb hdg hq hK
  | ior => exact gs_ior hx hb hdg hq hK
  | ishl => exact gs_ishl hx hb hdg hq hK
  | ishr => exact gs_ishr hx hb hdg hq hK
  | iushr => exact gs_iushr hx hb hdg hq hK
  | i2l => exact gs_i2l hx hb hdg hq hK
  | i2b => exact gs_i2b hx hb hdg hq hK
  | i2s => exact gs_i2s hx hb hdg hq hK
  | i2c => exact gs_i2c hx hb hdg hq hK
  | l2i => exact gs_l2i hx hb hdg hq hK
  | ladd => exact gs_ladd hx hb hdg hq hK
  | lsub => exact gs_lsub hx hb hdg hq hK
  | lmul => exact gs_lmul hx hb hdg hq hK
  | land => exact gs_land hx hb hdg hq hK
  | lor => exact gs_lor hx hb hdg hq hK
  | ldiv => exact gs_ldiv hx hb hdg hq hK
  | lrem => exact gs_lrem hx hb hdg hq hK
  | lshl => exact gs_lshl hx hb hdg hq hK
  | lushr => exact gs_lushr hx hb hdg hq hK
  | lcmp => exact gs_lcmp hx hb hdg hq hK
  | dup => exact gs_dup hx hb hdg hq hK
  | dup2 => exact gs_dup2 hx hb hdg hq hK
  | pop => exact gs_pop hx hb hdg hq hK
  | iconst n => exact gs_iconst hx hb hdg hq hK
  | lconst n => exact gs_lconst hx hb hdg hq hK
  | bipush n => exact gs_bipush hx hb hdg (of_decide_eq_true hst) hq hK
  | sipush n => exact gs_sipush hx hb hdg (of_decide_eq_true hst) hq hK
  | iload n => exact gs_iload hx hb hdg hq hK
  | iload_n n => exact gs_iload_n hx hb hdg hq hK
  | lload n => exact gs_lload hx hb hdg hq hK
  | lload_n n => exact gs_lload_n hx hb hdg hq hK
  | aload n => exact gs_aload hx hb hdg hq hK
  | aload_n n => exact gs_aload_n hx hb hdg hq hK
  | istore n => exact gs_istore hx hb hdg (q_sto hst).1 (q_sto hst).2 hq hK
  | istore_n n => exact gs_istore_n hx hb hdg (q_sto hst).1 (q_sto hst).2 hq hK
  | astore n => exact gs_astore hx hb hdg (q_sto hst).1 (q_sto hst).2 hq hK
  | astore_n n => exact gs_astore_n hx hb hdg (q_sto hst).1 (q_sto hst).2 hq hK
  | lstore n =>
    simp only [qst, Bool.and_eq_true, decide_eq_true_eq] at hst
    exact gs_lstore hx hb hdg hst.1.2 hst.2 (q_sto hst.1.1).2 hq hK
  | lstore_n n =>
    simp only [qst, Bool.and_eq_true, decide_eq_true_eq] at hst
    exact gs_lstore_n hx hb hdg hst.1.2 hst.2 (q_sto hst.1.1).2 hq hK
  | iinc n z => exact gs_iinc hx hb hdg (q_sto hst).1 (q_sto hst).2 hq hK
  | getfield k =>
    simp only [qst, Bool.or_eq_true, Bool.and_eq_true, decide_eq_true_eq] at hst
    rcases hst with hst | ⟨⟨h1, rfl⟩, h2⟩
    · exact gs_getfield hx hb hown hts hSF rfl hdg hst hq hK
    · rw [h1] at hown
      simp only [List.mem_cons, List.not_mem_nil, or_false] at h2
      exact gs_getfieldJ hx hb hown hts hSF rfl hdg h2 hq hK
  | putfield k => exact gs_putfield hx hb hown hts hSF hdg (of_decide_eq_true hst) hq hK
  | getstatic k =>
    simp only [qst, Bool.or_eq_true, Bool.and_eq_true, decide_eq_true_eq, List.isEmpty_iff, Bool.not_eq_true', List.isEmpty_eq_false_iff] at hst
    rcases hst with ⟨⟨h1, rfl, rfl⟩, rfl⟩ | ⟨⟨h1, rfl, rfl⟩, h2⟩
    · rw [h1] at hown
      exact gs_getstatic hx hb hown hts hSF hdg hq hK
    · rw [h1] at hown
      cases L with
      | nil => exact absurd rfl h2
      | cons x0 L' => exact gs_getstaticJ hx hb hown hts hSF hdg hq hK
  | ldc k =>
    simp only [qst, Bool.and_eq_true, decide_eq_true_eq] at hst
    rw [hst.1] at hown
    exact gs_ldc hx hb hown hSF hdg hst.2 hq hK
  | ldc2_w k => exact gs_ldc2 hx hb hown hts hdg (of_decide_eq_true hst) hq hK
  | iaload => exact gs_iaload hx hb hSF rfl hdg hq hK
  | baload => exact gs_baload hx hb hSF rfl hdg hq hK
  | laload => exact gs_laload hx hb hSF hdg hq hK
  | aaload => exact gs_aaload hx hb hSF hdg hq hK
  | iastore => exact gs_iastore hx hb hSF hdg hq hK
  | bastore => exact gs_bastore hx hb hSF hdg hq hK
  | lastore => exact gs_lastore hx hb hSF hdg hq hK
  | arraylength => exact gs_arraylength hx hb hSF rfl hdg hq hK
  | if_icmp cnd off =>
    have ht := of_decide_eq_true hst
    cases cnd with
    | eq => exact gs_icmp_eq hx hb hdg ht hq (hJ a) hK
    | ne => exact gs_icmp_ne hx hb hdg ht hq (hJ a) hK
    | lt => exact gs_icmp_lt hx hb hdg ht hq (hJ a) hK
    | ge => exact gs_icmp_ge hx hb hdg ht hq (hJ a) hK
    | gt => exact gs_icmp_gt hx hb hdg ht hq (hJ a) hK
    | le => exact gs_icmp_le hx hb hdg ht hq (hJ a) hK
  | ifCond cnd off =>
    have ht := of_decide_eq_true hst
    cases cnd with
    | eq => exact gs_if_eq hx hb hdg ht hq (hJ a) hK
    | ne => exact gs_if_ne hx hb hdg ht hq (hJ a) hK
    | lt => exact gs_if_lt hx hb hdg ht hq (hJ a) hK
    | ge => exact gs_if_ge hx hb hdg ht hq (hJ a) hK
    | gt => exact gs_if_gt hx hb hdg ht hq (hJ a) hK
    | le => exact gs_if_le hx hb hdg ht hq (hJ a) hK
  | goto off => exact gs_goto hx hb hdg (of_decide_eq_true hst) hq (hJ a)
  | tableswitch dd lo hi offs =>
    simp only [qst, qbt, Bool.and_eq_true, decide_eq_true_eq] at hst
    obtain ⟨⟨⟨h1, h2⟩, h3⟩, -⟩ := hst
    exact gs_table hx hb hdg h1 h2 h3 hq hJ
  | lookupswitch dd ps =>
    simp only [qst, qbt, Bool.and_eq_true, decide_eq_true_eq] at hst
    obtain ⟨⟨h1, h2⟩, h3⟩ := hst
    exact gs_lookup hx hb hdg h1 h2 h3 hq hJ
  | ireturn =>
    obtain ⟨z, r, rfl, rfl, h1, h2⟩ := q1i_o hq
    simp only [qst, qrt, Bool.and_eq_true, decide_eq_true_eq] at hst
    intro H locs lsR hP hD hS hl hnl hL hr
    exact hret pc (some (.inl z)) h H locs lsR h2 ⟨hdg, a, hst.1.2, hst.1.1, hst.2, h1⟩ hP hD hS hr
  | lreturn =>
    obtain ⟨z, r, rfl, rfl, h2⟩ := q1l_o hq
    intro H locs lsR hP hD hS hl hnl hL hr
    exact hret pc (some (.inr (.inl z))) h H locs lsR h2 ⟨hdg, of_decide_eq_true hst⟩ hP hD hS hr
  | areturn =>
    obtain ⟨z, r, rfl, rfl, h2⟩ := q1r_o hq
    intro H locs lsR hP hD hS hl hnl hL hr
    exact hret pc (some (.inr (.inr (some z)))) h H locs lsR h2 ⟨hdg, of_decide_eq_true hst⟩ hP hD hS hr
  | return_ =>
    obtain ⟨rfl, h2⟩ := hq
    intro H locs lsR hP hD hS hl hnl hL hr
    exact hret pc none h H locs lsR h2 ⟨hdg, of_decide_eq_true hst⟩ hP hD hS hr
  | invokevirtual k => exact gs_invv hF0 rfl hSF rfl hRm hdg (of_decide_eq_true hst) hq hK
  | invokestatic k =>
    match L, hst, hq with
    | [], hst, hq => exact gs_invs hF0 rfl hSF rfl hRm hdg (of_decide_eq_true hst) hq hK
    | 0 :: _, hst, hq => exact gs_invs hF0 rfl hSF rfl hRm hdg (of_decide_eq_true hst) hq hK
    | 1 :: _, hst, hq => exact gs_max hx hb hml hown hts hRm hdg (of_decide_eq_true hst) hq hK
    | 2 :: _, hst, hq => exact gs_min hx hb hml hown hts hRm hdg (of_decide_eq_true hst) hq hK
    | 3 :: _, hst, hq => exact gs_copy hx hb hml hown hts hSF hRm hdg (of_decide_eq_true hst) hq hK
    | 4 :: _, hst, hq => exact gs_invn hF0 rfl hSF rfl hRm hdg (of_decide_eq_true hst) hq hK
    | (n + 5) :: _, hst, hq => exact gs_invs hF0 rfl hSF rfl hRm hdg (of_decide_eq_true hst) hq hK
  | nop => exact absurd rfl hne
  | _ => exact hq.elim
theorem qval_o {pc : Nat} {i : Instr} {a b : Nat} {L : List Nat} {r : List qN} (hne : i ≠ .nop) (h : qval md pcs pc ((i, a, b, L) :: r) = true) : decode md.2.1 pc = .ok (i, qLen i b) ∧ qst md pcs pc i a b L = true ∧ qval md pcs (pc + qLen i b) r = true := by
  rw [qval] at h
  · simp only [Bool.and_eq_true, decide_eq_true_eq] at h
    exact h
  · exact hne
theorem qsimB (hF : qFr p s m args meth c md) (hSF : qSF α cs D base Ls xs s) (hRm : qRm d Rm cells slots) (hret : qRet p l e Rm s m args below meth c cells slots Q α cs D base (qro Ls xs) md R) (hJ : ∀ k ls st h, J k ls st h → qG p l e Rm s m args below meth c cells slots Q α cs D base md.2.2.1 md.2.2.2.2.2 (qro Ls xs) (qnth pcs k 0) ls st h) :
    ∀ (code : List qN) (pc : Nat) (ls : qL) (st : List qV) (h : qH), qval md pcs pc code = true → qB (qdn (qSnd l α cs D base Ls xs) d) J R code ls st h → qG p l e Rm s m args below meth c cells slots Q α cs D base md.2.2.1 md.2.2.2.2.2 (qro Ls xs) pc ls st h
  | [], _, _, _, _, _, hq => hq.elim
  | (i, a, b, L) :: r, pc, ls, st, h, hv, hq => by
    by_cases hne : i = .nop
    · subst hne
      have e : pc = qnth pcs a 0 := of_decide_eq_true hv
      rw [e]
      exact hJ _ _ _ _ hq
    · obtain ⟨h1, h2, h3⟩ := qval_o hne hv
      exact qsimI hF hSF hRm hret hJ hne h1 h2 hq (fun ls st h hk => qsimB hF hSF hRm hret hJ r _ ls st h h3 hk)
end
theorem qvm_o {md : qMd} {pcs : List Nat} : ∀ (ps : List Nat) (ks : List (List qN)), qvm md pcs ps ks = true → ∀ lb, qval md pcs (qnth ps lb 0) (qnth ks lb []) = true
  | p :: ps, k :: ks, h, 0 => by
    simp only [qvm, Bool.and_eq_true] at h
    exact h.1
  | p :: ps, k :: ks, h, lb + 1 => by
    simp only [qvm, Bool.and_eq_true] at h
    exact qvm_o ps ks h.2 lb
  | [], [], _, lb => by
    cases lb <;> rfl
  | [], _ :: _, h, _ => by cases h
  | _ :: _, [], h, _ => by cases h
/-- the pure machine's closed predicate holds of the machine -/
theorem qsound {l : Launch} {α : Nat → Nat} {cs : Nat → ClassId} {D : va_G} {base Ls : Nat} {xs : Nat → Int32} (hV : ∀ mi lb, qval (qmd mi) (qpcs mi) (qnth (qpcs mi) lb 0) (qBK mi lb) = true) {d mi lb : Nat} {ls : qL} {st : List qV} {h : qH} {R : qR} (hw : Wp d mi lb ls st h R) : qSnd l α cs D base Ls xs d mi lb ls st h R := by
  refine hw (qSnd l α cs D base Ls xs) ?_
  intro d mi lb ls st h R hq p e Rm s m args below meth c cells slots Q hF hSF hRm hret
  exact qsimB (pcs := qpcs mi) hF hSF hRm hret (fun k ls st h hk => hk p e Rm s m args below meth c cells slots Q hF hSF hRm hret) (qBK mi lb) _ ls st h (hV mi lb) hq
