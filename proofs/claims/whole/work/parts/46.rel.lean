/-! ===== what the class's cells and the reference's cells hold: one state ===== -/
abbrev zS : Type := (Nat → Int) × (Nat → Int) × Int × Int × (Nat → Int) × (Nat → Int) × (Nat → Int) × (Nat → Nat → Int64)
/-- a State of the class -/
def StR (h : qH) (st su fa se p1 ev p2 bo p3 : Nat) (a : Nat → Int) : Prop := h st = .inl (3, [(.inr (.inr (some su))), (.inr (.inr (some se))), (.inr (.inr (some ev))), (.inr (.inr (some bo)))]) ∧ (∃ D ff, RepS h su fa a D ff) ∧ RowsR h se p1 5 a 73 74 79 ∧ RowsR h ev p2 8 a 84 85 93 ∧ RowsR h bo p3 8 a 101 102 110
theorem StR_k {h h' : qH} {st su fa se p1 ev p2 bo p3 : Nat} {a : Nat → Int} (hR : StR h st su fa se p1 ev p2 bo p3 a) (hk : ∀ k, k = st ∨ k = su ∨ k = fa ∨ k = se ∨ k = p1 ∨ k = ev ∨ k = p2 ∨ k = bo ∨ k = p3 → h' k = h k) : StR h' st su fa se p1 ev p2 bo p3 a := by
  obtain ⟨g1, ⟨D, ff, g2⟩, g3, g4, g5⟩ := hR
  exact ⟨(hk _ (by simp)).trans g1, ⟨D, ff, RepS_k g2 (hk _ (by simp)) (hk _ (by simp))⟩, RowsR_k g3 (hk _ (by simp)) (hk _ (by simp)), RowsR_k g4 (hk _ (by simp)) (hk _ (by simp)), RowsR_k g5 (hk _ (by simp)) (hk _ (by simp))⟩
theorem RowsR_e {h : qH} {ro pr most at' : Nat} {a b : Nat → Int} {b1 b2 : Int} (hR : RowsR h ro pr most a at' b1 b2) (e0 : b at' = a at') (e1 : ∀ i : Int, 0 ≤ i → i < a at' → b (b1 + i).toNat = a (b1 + i).toNat ∧ b (b2 + i).toNat = a (b2 + i).toNat) : RowsR h ro pr most b at' b1 b2 := by
  obtain ⟨g1, f, g2, g3⟩ := hR
  refine ⟨by rw [e0]; exact g1, f, g2, fun i i0 i1 => ?_⟩
  rw [e0] at i1
  obtain ⟨q1, q2⟩ := e1 i i0 i1
  rw [q1, q2]
  exact g3 i i0 i1
/-- the trial's cells as they may be -/
def TrO (h : qH) : Prop := (∃ z0 z1 z2 z3 D f, h 5 = .inl (2, [.inl z0, .inl z1, .inl z2, .inl z3, (.inr (.inl D)), (.inr (.inr (some 8)))]) ∧ h 8 = .inr (0, 20, .inl f)) ∧ OldB h
theorem TrO_k {h h' : qH} (hO : TrO h) (hk : ∀ k, k = 5 ∨ k = 8 ∨ k = 22 ∨ k = 24 ∨ k = 26 ∨ k = 28 ∨ k = 30 → h' k = h k) : TrO h' := by
  obtain ⟨⟨z0, z1, z2, z3, D, f, g1, g2⟩, g3⟩ := hO
  exact ⟨⟨z0, z1, z2, z3, D, f, (hk _ (by omega)).trans g1, (hk _ (by omega)).trans g2⟩, OldB_k g3 (fun k hk' => hk k (by omega))⟩
def TxR (h : qH) (sg : Int) (tx : Nat → Int) : Prop := h 31 = .inl (5, [(.inr (.inr (some 32))), .inl sg]) ∧ ∃ f, h 32 = .inr (1, 100, .inl f) ∧ ∀ k : Nat, (k : Int) < sg → f k = tx k
theorem TxR_k {h h' : qH} {sg : Int} {tx : Nat → Int} (hO : TxR h sg tx) (h1 : h' 31 = h 31) (h2 : h' 32 = h 32) : TxR h' sg tx := by
  obtain ⟨g1, f, g2, g3⟩ := hO
  exact ⟨h1.trans g1, f, h2.trans g2, g3⟩
def TpR (h : qH) (so sz : Nat → Int) (rw : Nat → Nat → Int64) : Prop := (∃ F, h 33 = .inr (3, 6, .inr (.inr F)) ∧ ∀ i : Nat, i < 6 → F i = some (34 + i)) ∧ ∀ i : Nat, i < 6 → h (34 + i) = .inl (4, [.inr (.inr (some (40 + i))), .inl (so i), .inl (sz i)]) ∧ ∃ f, h (40 + i) = .inr (2, 60, .inr (.inl f)) ∧ ∀ k : Nat, k < 60 → f k = rw i k
theorem TpR_k {h h' : qH} {so sz : Nat → Int} {rw : Nat → Nat → Int64} (hO : TpR h so sz rw) (hk : ∀ k, 33 ≤ k → k ≤ 45 → h' k = h k) : TpR h' so sz rw := by
  obtain ⟨⟨F, g1, g2⟩, g3⟩ := hO
  refine ⟨⟨F, (hk _ (by omega) (by omega)).trans g1, g2⟩, fun i hi => ?_⟩
  obtain ⟨q1, f, q2, q3⟩ := g3 i hi
  exact ⟨(hk _ (by omega) (by omega)).trans q1, f, (hk _ (by omega) (by omega)).trans q2, q3⟩
abbrev pob (ik fr : Int) : qC := .inl (7, [(.inr (.inr (some 1))), (.inr (.inr (some 2))), .inl ik, (.inr (.inr (some 21))), .inl fr, (.inr (.inr (some 5))), (.inr (.inr (some 22))), (.inr (.inr (some 31))), (.inr (.inr (some 33)))])
/-- the class's cells hold the state s; fr: the cuts are fresh -/
def CSf (h : qH) (s : zS) (fr : Int) : Prop := match s with
  | (a, kp, ik, sg, tx, so, sz, rw) => h 0 = pob ik fr ∧ StR h 1 3 6 9 15 10 16 11 17 a ∧ (∃ kq, StR h 2 4 7 12 18 13 19 14 20 kq ∧ (ik = 1 → kq = kp)) ∧ (OldA h ∧ (fr = 1 → FreA h a)) ∧ TrO h ∧ TxR h sg tx ∧ TpR h so sz rw ∧ h 1000 = .inr (0, 8, .inl qspan)
def CS (h : qH) (s : zS) : Prop := ∃ fr, (fr = 0 ∨ fr = 1) ∧ CSf h s fr
/-- what a call of the class leaves as it was -/
abbrev FrC (h h' : qH) : Prop := ∀ k, 46 ≤ k → h' k = h k
/-- what a call of the reference leaves as it was -/
abbrev FrR (h h' : qH) : Prop := ∀ k, k < 46 ∨ 64 < k → h' k = h k
theorem FrC_t {h h' h2 : qH} (h1 : FrC h h') (g : FrC h' h2) : FrC h h2 := fun k hk => (g k hk).trans (h1 k hk)
theorem FrR_t {h h' h2 : qH} (h1 : FrR h h') (g : FrR h' h2) : FrR h h2 := fun k hk => (g k hk).trans (h1 k hk)
theorem CS_fr {h h' : qH} {s : zS} (hC : CS h s) (hk : FrR h h') : CS h' s := by
  obtain ⟨fr, hf, hC⟩ := hC
  obtain ⟨a, kp, ik, sg, tx, so, sz, rw⟩ := s
  obtain ⟨g0, g1, ⟨kq, g2, g3⟩, ⟨g4, g5⟩, g6, g7, g8, g9⟩ := hC
  exact ⟨fr, hf, (hk _ (by omega)).trans g0, StR_k g1 (fun k h => hk k (by omega)), ⟨kq, StR_k g2 (fun k h => hk k (by omega)), g3⟩, ⟨OldA_k g4 (fun k h => hk k (by omega)), fun h => FreA_k (g5 h) (fun k h => hk k (by omega))⟩, TrO_k g6 (fun k h => hk k (by omega)), TxR_k g7 (hk _ (by omega)) (hk _ (by omega)), TpR_k g8 (fun k h1 h2 => hk k (by omega)), (hk _ (by omega)).trans g9⟩
/-- the set-up alone has changed -/
theorem CSf_su {h h' : qH} {a a' : Nat → Int} {kp tx so sz : Nat → Int} {ik sg fr : Int} {rw : Nat → Nat → Int64} {D : Int64} {ff : Nat → Int} (hC : CSf h (a, kp, ik, sg, tx, so, sz, rw) fr) (h0 : h' 0 = pob ik 0) (hS : RepS h' 3 6 a' D ff) (he : ∀ k, 73 ≤ k → a' k = a k) (hk : ∀ k, k ≠ 0 → k ≠ 3 → k ≠ 6 → h' k = h k) : CS h' (a', kp, ik, sg, tx, so, sz, rw) := by
  obtain ⟨g0, ⟨q1, q2, q3, q4, q5⟩, ⟨kq, g2, g3⟩, ⟨g4, g5⟩, g6, g7, g8, g9⟩ := hC
  refine ⟨0, Or.inl rfl, h0, ⟨(hk _ (by omega) (by omega) (by omega)).trans q1, ⟨D, ff, hS⟩, ?_, ?_, ?_⟩, ⟨kq, StR_k g2 (fun k h => hk k (by omega) (by omega) (by omega)), g3⟩, ⟨OldA_k g4 (fun k h => hk k (by omega) (by omega) (by omega)), fun h => by omega⟩, TrO_k g6 (fun k h => hk k (by omega) (by omega) (by omega)), TxR_k g7 (hk _ (by omega) (by omega) (by omega)) (hk _ (by omega) (by omega) (by omega)), TpR_k g8 (fun k h1 h2 => hk k (by omega) (by omega) (by omega)), (hk _ (by omega) (by omega) (by omega)).trans g9⟩
  · exact RowsR_e (RowsR_k q3 (hk _ (by omega) (by omega) (by omega)) (hk _ (by omega) (by omega) (by omega))) (he _ (by omega)) (fun i i0 i1 => ⟨he _ (by omega), he _ (by omega)⟩)
  · exact RowsR_e (RowsR_k q4 (hk _ (by omega) (by omega) (by omega)) (hk _ (by omega) (by omega) (by omega))) (he _ (by omega)) (fun i i0 i1 => ⟨he _ (by omega), he _ (by omega)⟩)
  · exact RowsR_e (RowsR_k q5 (hk _ (by omega) (by omega) (by omega)) (hk _ (by omega) (by omega) (by omega))) (he _ (by omega)) (fun i i0 i1 => ⟨he _ (by omega), he _ (by omega)⟩)
/-- the reference's cells hold the state s -/
def RS (h : qH) (s : zS) : Prop := match s with
  | (a, kp, ik, sg, tx, so, sz, rw) => (∃ cl mn, h 46 = mob ik sg cl mn) ∧ h 47 = .inr (0, 118, .inl a) ∧ h 48 = .inr (0, 118, .inl kp) ∧ (∃ f, h 49 = .inr (0, 118, .inl f)) ∧ h 50 = .inr (0, 100, .inl tx) ∧ (∃ f, h 51 = .inr (0, 12, .inl f)) ∧ (∃ f, h 52 = .inr (0, 4096, .inl f)) ∧ (∃ f, h 53 = .inr (0, 1024, .inl f)) ∧ (∃ f, h 54 = .inr (0, 4096, .inl f)) ∧ h 55 = .inr (0, 6, .inl so) ∧ h 56 = .inr (0, 6, .inl sz) ∧ (∃ F, h 57 = .inr (4, 6, .inr (.inr F)) ∧ ∀ i : Nat, i < 6 → F i = some (58 + i)) ∧ (∀ i : Nat, i < 6 → h (58 + i) = .inr (2, 60, .inr (.inl (rw i)))) ∧ (∃ f, h 64 = .inr (2, 60, .inr (.inl f)))
theorem RS_fr {h h' : qH} {s : zS} (hR : RS h s) (hk : FrC h h') : RS h' s := by
  obtain ⟨a, kp, ik, sg, tx, so, sz, rw⟩ := s
  obtain ⟨⟨cl, mn, g1⟩, g2, g3, ⟨f4, g4⟩, g5, ⟨f6, g6⟩, ⟨f7, g7⟩, ⟨f8, g8⟩, ⟨f9, g9⟩, g10, g11, ⟨F, g12, g13⟩, g14, ⟨f15, g15⟩⟩ := hR
  exact ⟨⟨cl, mn, (hk _ (by omega)).trans g1⟩, (hk _ (by omega)).trans g2, (hk _ (by omega)).trans g3, ⟨f4, (hk _ (by omega)).trans g4⟩, (hk _ (by omega)).trans g5, ⟨f6, (hk _ (by omega)).trans g6⟩, ⟨f7, (hk _ (by omega)).trans g7⟩, ⟨f8, (hk _ (by omega)).trans g8⟩, ⟨f9, (hk _ (by omega)).trans g9⟩, (hk _ (by omega)).trans g10, (hk _ (by omega)).trans g11, ⟨F, (hk _ (by omega)).trans g12, g13⟩, fun i hi => (hk _ (by omega)).trans (g14 i hi), ⟨f15, (hk _ (by omega)).trans g15⟩⟩
/-! ===== how a state is ===== -/
abbrev Sbad (a : Nat → Int) : Int := sumk 49 (fun k => a (24 + k).toNat)
abbrev EvOK (a : Nat → Int) (what n : Int) : Prop := (what = 0 ∧ 0 ≤ n ∧ n ≤ 2) ∨ (what = 1 ∧ 0 ≤ n ∧ n / 10 ≤ 6 ∧ n % 10 ≤ 6) ∨ ((what = 2 ∨ what = 3) ∧ 0 ≤ n ∧ n < a 3)
abbrev UsOK (a : Nat → Int) (p n : Int) : Prop := (0 ≤ p ∧ p < a 3) ∧ 0 ≤ n ∧ n ≤ 49
def WX (a : Nat → Int) : Prop := WF a ∧ Sbad a ≤ 3 ∧ ((0 ≤ a 73 ∧ a 73 ≤ 5) ∧ ∀ i : Int, 0 ≤ i → i < a 73 → UsOK a (a (74 + i).toNat) (a (79 + i).toNat)) ∧ ((0 ≤ a 84 ∧ a 84 ≤ 8) ∧ ∀ i : Int, 0 ≤ i → i < a 84 → EvOK a (a (85 + i).toNat) (a (93 + i).toNat)) ∧ ((0 ≤ a 101 ∧ a 101 ≤ 8) ∧ ∀ i : Int, 0 ≤ i → i < a 101 → UsOK a (a (102 + i).toNat) (a (110 + i).toNat))
def WS (s : zS) : Prop := match s with
  | (a, kp, ik, sg, tx, so, sz, _) => WX a ∧ (ik = 0 ∨ ik = 1) ∧ (ik = 1 → WX kp) ∧ (0 ≤ sg ∧ sg ≤ 100) ∧ (∀ k : Nat, 0 ≤ tx k ∧ tx k ≤ 127) ∧ ∀ i : Nat, i < 6 → (-1 ≤ so i ∧ so i ≤ 4) ∧ (0 ≤ sz i ∧ sz i ≤ 60) ∧ (so i = -1 → sz i = 0)
/-- the set-up has changed, the parts have not become fewer -/
theorem WX_su {a a' : Nat → Int} (hX : WX a) (hW : WF a') (hb : Sbad a' ≤ 3) (h3 : a 3 ≤ a' 3) (he : ∀ k, 73 ≤ k → a' k = a k) : WX a' := by
  obtain ⟨-, -, ⟨g1, g2⟩, ⟨g3, g4⟩, ⟨g5, g6⟩⟩ := hX
  refine ⟨hW, hb, ⟨by rw [he _ (by omega)]; exact g1, fun i i0 i1 => ?_⟩, ⟨by rw [he _ (by omega)]; exact g3, fun i i0 i1 => ?_⟩, ⟨by rw [he _ (by omega)]; exact g5, fun i i0 i1 => ?_⟩⟩
  · rw [he 73 (by omega)] at i1
    have := g2 i i0 i1
    rw [he _ (by omega), he _ (by omega)]
    unfold UsOK at this ⊢
    omega
  · rw [he 84 (by omega)] at i1
    have := g4 i i0 i1
    rw [he _ (by omega), he _ (by omega)]
    unfold EvOK at this ⊢
    omega
  · rw [he 101 (by omega)] at i1
    have := g6 i i0 i1
    rw [he _ (by omega), he _ (by omega)]
    unfold UsOK at this ⊢
    omega
