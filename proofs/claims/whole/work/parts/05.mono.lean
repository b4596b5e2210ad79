/-! ===== it asks no more of more ===== -/
section
variable {ls : qL} {k : Nat} {st : List qV}
theorem qil_m {F G : Int → Prop} (hf : ∀ z, F z → G z) (h : qil ls k F) : qil ls k G := by
  unfold qil at h ⊢; split at h
  · exact hf _ h
  · exact h.elim
theorem qll_m {F G : Int64 → Prop} (hf : ∀ z, F z → G z) (h : qll ls k F) : qll ls k G := by
  unfold qll at h ⊢; split at h
  · exact hf _ h
  · exact h.elim
theorem qal_m {F G : Nat → Prop} (hf : ∀ z, F z → G z) (h : qal ls k F) : qal ls k G := by
  unfold qal at h ⊢; split at h
  · exact hf _ h
  · exact h.elim
theorem q1i_m {F G : Int → List qV → Prop} (hf : ∀ z r, F z r → G z r) (h : q1i st F) : q1i st G := by
  unfold q1i at h ⊢; split at h
  · exact hf _ _ h
  · exact h.elim
theorem q2i_m {F G : Int → Int → List qV → Prop} (hf : ∀ z y r, F z y r → G z y r) (h : q2i st F) : q2i st G := by
  unfold q2i at h ⊢; split at h
  · exact hf _ _ _ h
  · exact h.elim
theorem q1l_m {F G : Int64 → List qV → Prop} (hf : ∀ z r, F z r → G z r) (h : q1l st F) : q1l st G := by
  unfold q1l at h ⊢; split at h
  · exact hf _ _ h
  · exact h.elim
theorem q2l_m {F G : Int64 → Int64 → List qV → Prop} (hf : ∀ z y r, F z y r → G z y r) (h : q2l st F) : q2l st G := by
  unfold q2l at h ⊢; split at h
  · exact hf _ _ _ h
  · exact h.elim
theorem qli_m {F G : Int64 → Int → List qV → Prop} (hf : ∀ z y r, F z y r → G z y r) (h : qli st F) : qli st G := by
  unfold qli at h ⊢; split at h
  · exact hf _ _ _ h
  · exact h.elim
theorem q1r_m {F G : Nat → List qV → Prop} (hf : ∀ z r, F z r → G z r) (h : q1r st F) : q1r st G := by
  unfold q1r at h ⊢; split at h
  · exact hf _ _ h
  · exact h.elim
theorem qir_m {F G : Int → Nat → List qV → Prop} (hf : ∀ z y r, F z y r → G z y r) (h : qir st F) : qir st G := by
  unfold qir at h ⊢; split at h
  · exact hf _ _ _ h
  · exact h.elim
theorem qiir_m {F G : Int → Int → Nat → List qV → Prop} (hf : ∀ z y n r, F z y n r → G z y n r) (h : qiir st F) : qiir st G := by
  unfold qiir at h ⊢; split at h
  · exact hf _ _ _ _ h
  · exact h.elim
theorem qlir_m {F G : Int64 → Int → Nat → List qV → Prop} (hf : ∀ z y n r, F z y n r → G z y n r) (h : qlir st F) : qlir st G := by
  unfold qlir at h ⊢; split at h
  · exact hf _ _ _ _ h
  · exact h.elim
theorem qvr_m {F G : qV → Nat → List qV → Prop} (hf : ∀ z y r, F z y r → G z y r) (h : qvr st F) : qvr st G := by
  unfold qvr at h ⊢; split at h
  · exact hf _ _ _ h
  · exact h.elim
theorem q1v_m {F G : qV → List qV → Prop} (hf : ∀ z r, F z r → G z r) (h : q1v st F) : q1v st G := by
  unfold q1v at h ⊢; split at h
  · exact hf _ _ h
  · exact h.elim
theorem q2v_m {F G : qV → qV → List qV → Prop} (hf : ∀ z y r, F z y r → G z y r) (h : q2v st F) : q2v st G := by
  unfold q2v at h ⊢; split at h
  · exact hf _ _ _ h
  · exact h.elim
theorem qso_m {α : Type} {o : Option α} {F G : α → Prop} (hf : ∀ z, F z → G z) (h : qso o F) : qso o G := by
  unfold qso at h ⊢; split at h
  · exact hf _ h
  · exact h.elim
theorem qob_m {c : qC} {ci : Nat} {F G : List qV → Prop} (hf : ∀ z, F z → G z) (h : qob c ci F) : qob c ci G := by
  unfold qob at h ⊢; split at h
  · exact ⟨h.1, hf _ h.2⟩
  · exact h.elim
theorem qai_m {c : qC} {ty : Nat} {F G : Nat → (Nat → Int) → Prop} (hf : ∀ n z, F n z → G n z) (h : qai c ty F) : qai c ty G := by
  unfold qai at h ⊢; split at h
  · exact ⟨h.1, hf _ _ h.2⟩
  · exact h.elim
theorem qalg_m {c : qC} {F G : Nat → (Nat → Int64) → Prop} (hf : ∀ n z, F n z → G n z) (h : qalg c F) : qalg c G := by
  unfold qalg at h ⊢; split at h
  · exact ⟨h.1, hf _ _ h.2⟩
  · exact h.elim
theorem qar_m {c : qC} {F G : Nat → (Nat → Option Nat) → Prop} (hf : ∀ n z, F n z → G n z) (h : qar c F) : qar c G := by
  unfold qar at h ⊢; split at h
  · exact ⟨h.1, hf _ _ h.2⟩
  · exact h.elim
theorem qaln_m {c : qC} {F G : Nat → Prop} (hf : ∀ n, F n → G n) (h : qaln c F) : qaln c G := by
  unfold qaln at h ⊢; split at h
  · exact ⟨h.1, hf _ h.2⟩
  · exact h.elim
theorem qsw_m {x : Int} {P P' : Nat → Prop} {dl : Nat} (hf : ∀ k, P k → P' k) : ∀ (L : List Nat) (lo : Int), qsw x P dl lo L → qsw x P' dl lo L
  | [], _, h => hf _ h
  | _ :: r, lo, h => ⟨fun e => hf _ (h.1 e), fun e => qsw_m hf r (lo + 1) (h.2 e)⟩
theorem qlk_m {x : Int} {P P' : Nat → Prop} {dl : Nat} (hf : ∀ k, P k → P' k) : ∀ (M : List Int) (L : List Nat), qlk x P dl M L → qlk x P' dl M L
  | _ :: ms, _ :: r, h => ⟨fun e => hf _ (h.1 e), fun e => qlk_m hf ms r (h.2 e)⟩
  | [], [], h => hf _ h
  | [], _ :: _, h => hf _ h
  | _ :: _, [], h => hf _ h
theorem qcp5_m {F G : Nat → Int → Nat → Int → Int → List qV → Prop} (hf : ∀ a b c d e f, F a b c d e f → G a b c d e f) (h : qcp5 st F) : qcp5 st G := by
  unfold qcp5 at h ⊢; split at h
  · exact hf _ _ _ _ _ _ h
  · exact h.elim
theorem qcpc_m {cs cd : qC} {F F' : Nat → (Nat → Int) → Nat → (Nat → Int) → Prop} {G G' : Nat → (Nat → Int64) → Nat → (Nat → Int64) → Prop} (hf : ∀ a b c d, F a b c d → F' a b c d) (hg : ∀ a b c d, G a b c d → G' a b c d) (h : qcpc cs cd F G) : qcpc cs cd F' G' := by
  unfold qcpc at h ⊢; split at h
  · exact ⟨h.1, h.2.1, hf _ _ _ _ h.2.2⟩
  · exact ⟨h.1, h.2.1, hg _ _ _ _ h.2.2⟩
  · exact h.elim
end
section
variable {C C' : Nat → List qV → qH → qR → Prop} {J J' : Nat → qL → List qV → qH → Prop} {R R' : qR} {K K' : qL → List qV → qH → Prop}
theorem qcall_m (hC : ∀ a av h R1, C a av h R1 → C' a av h R1) (hK : ∀ ls st h, K ls st h → K' ls st h) {a : Nat} {av rest : List qV} {ls : qL} {h : qH} (hq : qcall C K a av rest ls h) : qcall C' K' a av rest ls h := by
  obtain ⟨h1, R1, h2, h3⟩ := hq
  exact ⟨h1, R1, hC _ _ _ _ h2, fun r h' hr => hK _ _ _ (h3 r h' hr)⟩
theorem qI_m (hC : ∀ a av h R1, C a av h R1 → C' a av h R1) (hJ : ∀ k ls st h, J k ls st h → J' k ls st h) (hR : ∀ r h, R r h → R' r h) (hK : ∀ ls st h, K ls st h → K' ls st h) {i : Instr} {a b : Nat} {L : List Nat} {ls : qL} {st : List qV} {h : qH} (hq : qI C J R K i a b L ls st h) : qI C' J' R' K' i a b L ls st h := by
  cases i <;> first
    | exact hq.elim
    | exact hK _ _ _ hq
    | exact hJ _ _ _ _ hq
    | exact qil_m (fun z => hK _ _ _) hq
    | exact qll_m (fun z => hK _ _ _) hq
    | exact qal_m (fun z => hK _ _ _) hq
    | exact q1i_m (fun z r => hK _ _ _) hq
    | exact q1l_m (fun z r => hK _ _ _) hq
    | exact q1r_m (fun z r => hK _ _ _) hq
    | exact q2i_m (fun z y r => hK _ _ _) hq
    | exact q2l_m (fun z y r => hK _ _ _) hq
    | exact qli_m (fun z y r => hK _ _ _) hq
    | exact q2i_m (fun z y r hq => ⟨hq.1, hq.2.1, hq.2.2.1, hK _ _ _ hq.2.2.2⟩) hq
    | exact q1i_m (fun z r hq => ⟨hq.1, hK _ _ _ hq.2⟩) hq
    | exact q2l_m (fun z y r hq => ⟨hq.1, hK _ _ _ hq.2⟩) hq
    | exact q1v_m (fun z r hq => ⟨hq.1, hK _ _ _ hq.2⟩) hq
    | exact q2v_m (fun z y r hq => ⟨hq.1, hq.2.1, hK _ _ _ hq.2.2⟩) hq
    | exact q1r_m (fun n r => qob_m (fun fs => qso_m (fun v => hK _ _ _))) hq
    | exact qvr_m (fun v n r hq => ⟨hq.1, qob_m (fun fs hq => ⟨hq.1, hq.2.1, hK _ _ _ hq.2.2⟩) hq.2⟩) hq
    | exact qir_m (fun i n r => qai_m (fun len f hq => ⟨hq.1, hq.2.1, hq.2.2.1, hK _ _ _ hq.2.2.2⟩)) hq
    | exact qir_m (fun i n r hq => ⟨hq.1, qalg_m (fun len f hq => ⟨hq.1, hq.2.1, hq.2.2.1, hK _ _ _ hq.2.2.2⟩) hq.2⟩) hq
    | exact qir_m (fun i n r hq => ⟨hq.1, qar_m (fun len f hq => ⟨hq.1, hq.2.1, hq.2.2.1, qso_m (fun v => hK _ _ _) hq.2.2.2⟩) hq.2⟩) hq
    | exact qiir_m (fun v i n r hq => ⟨hq.1, qai_m (fun len f hq => ⟨hq.1, hq.2.1, hq.2.2.1, hK _ _ _ hq.2.2.2⟩) hq.2⟩) hq
    | exact qiir_m (fun v i n r hq => ⟨hq.1, qai_m (fun len f hq => ⟨hq.1, hq.2.1, hq.2.2.1, hq.2.2.2.1, hq.2.2.2.2.1, hK _ _ _ hq.2.2.2.2.2⟩) hq.2⟩) hq
    | exact qlir_m (fun v i n r hq => ⟨hq.1, qalg_m (fun len f hq => ⟨hq.1, hq.2.1, hq.2.2.1, hK _ _ _ hq.2.2.2⟩) hq.2⟩) hq
    | exact q1r_m (fun n r => qaln_m (fun len => hK _ _ _)) hq
    | exact q2i_m (fun x y r hq => ⟨hq.1, hq.2.1, fun e => hJ _ _ _ _ (hq.2.2.1 e), fun e => hK _ _ _ (hq.2.2.2 e)⟩) hq
    | exact q1i_m (fun x r hq => ⟨hq.1, fun e => hJ _ _ _ _ (hq.2.1 e), fun e => hK _ _ _ (hq.2.2 e)⟩) hq
    | exact q1i_m (fun x r hq => ⟨hq.1, qsw_m (fun k => hJ _ _ _ _) _ _ hq.2⟩) hq
    | exact q1i_m (fun x r hq => ⟨hq.1, qlk_m (fun k => hJ _ _ _ _) _ _ hq.2⟩) hq
    | exact q1i_m (fun x r hq => ⟨hq.1, hq.2.1, hR _ _ hq.2.2⟩) hq
    | exact q1l_m (fun x r hq => ⟨hq.1, hR _ _ hq.2⟩) hq
    | exact q1r_m (fun x r hq => ⟨hq.1, hR _ _ hq.2⟩) hq
    | exact ⟨hq.1, hR _ _ hq.2⟩
    | exact qso_m (fun q => q1r_m (fun n r => qob_m (fun fs => qcall_m hC hK))) hq
    | skip
  · -- getstatic
    rcases L with _ | ⟨x, L⟩
    · exact hK _ _ _ hq
    · exact hK _ _ _ hq
  · -- invokestatic
    rcases L with _ | ⟨x, L⟩
    · exact qso_m (fun q => qcall_m hC hK) hq
    · rcases x with _ | _ | _ | _ | x
      · exact qso_m (fun q => qcall_m hC hK) hq
      · exact q2i_m (fun x y r hq => ⟨hq.1, hq.2.1, hq.2.2.1, hK _ _ _ hq.2.2.2⟩) hq
      · exact q2i_m (fun x y r hq => ⟨hq.1, hq.2.1, hq.2.2.1, hK _ _ _ hq.2.2.2⟩) hq
      · exact qcp5_m (fun _ _ _ _ _ _ hq => ⟨hq.1, qcpc_m (fun _ _ _ _ hq => ⟨hq.1, hK _ _ _ hq.2⟩) (fun _ _ _ _ hq => ⟨hq.1, hK _ _ _ hq.2⟩) hq.2⟩) hq
      · exact qso_m (fun q => qcall_m hC hK) hq
theorem qB_m (hC : ∀ a av h R1, C a av h R1 → C' a av h R1) (hJ : ∀ k ls st h, J k ls st h → J' k ls st h) (hR : ∀ r h, R r h → R' r h) : ∀ (c : List qN) (ls : qL) (st : List qV) (h : qH), qB C J R c ls st h → qB C' J' R' c ls st h
  | [], _, _, _, hq => hq.elim
  | (_, _, _, _) :: r, _, _, _, hq => qI_m hC hJ hR (qB_m hC hJ hR r) hq
end
/-! ===== the least predicate that is closed under it ===== -/
abbrev qX : Type := Nat → Nat → Nat → qL → List qV → qH → qR → Prop
def qdn (X : qX) (d a : Nat) (av : List qV) (h : qH) (R' : qR) : Prop := match d with
  | 0 => False
  | d + 1 => (qcs av ≤ qML a ∧ qlsb (qLSt a) 0 av = true) ∧ X d a 0 (qEn (qML a) av) [] h R'
def qF (X : qX) : qX := fun d mi lb ls st h R => qB (qdn X d) (fun lb ls st h => X d mi lb ls st h R) R (qBK mi lb) ls st h
def Wp : qX := fun d mi lb ls st h R => ∀ X : qX, (∀ d mi lb ls st h R, qF X d mi lb ls st h R → X d mi lb ls st h R) → X d mi lb ls st h R
theorem qF_m {X Y : qX} (hXY : ∀ d mi lb ls st h R, X d mi lb ls st h R → Y d mi lb ls st h R) {d mi lb : Nat} {ls : qL} {st : List qV} {h : qH} {R : qR} (hq : qF X d mi lb ls st h R) : qF Y d mi lb ls st h R := by
  refine qB_m ?_ (fun _ _ _ _ => hXY _ _ _ _ _ _ _) (fun _ _ h => h) _ _ _ _ hq
  intro a av h R1 h1
  cases d with
  | zero => exact h1
  | succ d => exact ⟨h1.1, hXY _ _ _ _ _ _ _ h1.2⟩
theorem Wp_in {d mi lb : Nat} {ls : qL} {st : List qV} {h : qH} {R : qR} (hq : qF Wp d mi lb ls st h R) : Wp d mi lb ls st h R :=
  fun X hX => hX _ _ _ _ _ _ _ (qF_m (fun _ _ _ _ _ _ _ hw => hw X hX) hq)
theorem Wp_out {d mi lb : Nat} {ls : qL} {st : List qV} {h : qH} {R : qR} (hq : Wp d mi lb ls st h R) : qF Wp d mi lb ls st h R :=
  hq (qF Wp) (fun _ _ _ _ _ _ _ h1 => qF_m (fun _ _ _ _ _ _ _ => Wp_in) h1)
theorem Wp_iff (d mi lb : Nat) (ls : qL) (st : List qV) (h : qH) (R : qR) : Wp d mi lb ls st h R ↔ qB (qdn Wp d) (fun lb ls st h => Wp d mi lb ls st h R) R (qBK mi lb) ls st h := ⟨Wp_out, Wp_in⟩
