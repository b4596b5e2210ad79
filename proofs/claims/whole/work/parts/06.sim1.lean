/-! ===== the simulation: numbers ===== -/
theorem z_t {x : Int} (h : qin x) : (Int32.ofInt x).toInt = x := Int32.toInt_ofInt_of_le h.1 (Int.lt_of_le_of_lt h.2 (by decide))
theorem z_r (v : Int32) : Int32.ofInt v.toInt = v := Int32.ofInt_toInt v
theorem z_lt {x y : Int} (hx : qin x) (hy : qin y) : Int32.ofInt x < Int32.ofInt y ↔ x < y := by rw [Int32.lt_iff_toInt_lt, z_t hx, z_t hy]
theorem z_le {x y : Int} (hx : qin x) (hy : qin y) : Int32.ofInt x ≤ Int32.ofInt y ↔ x ≤ y := by rw [Int32.le_iff_toInt_le, z_t hx, z_t hy]
theorem z_eq {x y : Int} (hx : qin x) (hy : qin y) : Int32.ofInt x = Int32.ofInt y ↔ x = y := ⟨fun e => by have := congrArg Int32.toInt e; rwa [z_t hx, z_t hy] at this, fun e => by rw [e]⟩
theorem z_0 : Int32.ofInt 0 = 0 := rfl
theorem z_in0 : qin 0 := ⟨by decide, by decide⟩
theorem z_cl {i : Int} (h0 : 0 ≤ i) (h1 : i ≤ 2147483647) : (Int32.ofInt i).toNatClampNeg = i.toNat := by
  show (Int32.ofInt i).toInt.toNat = i.toNat
  rw [z_t ⟨by omega, h1⟩]
theorem z_vin {i : Int} {n : Nat} (h0 : 0 ≤ i) (h1 : i ≤ 2147483647) (h : i < n) : vp_in (Int32.ofInt i) n := by
  rw [vp_in_iff, z_t ⟨by omega, h1⟩]
  exact ⟨h0, h⟩
theorem z_nneg {i : Int} (h0 : 0 ≤ i) (h1 : i ≤ 2147483647) : ¬ Int32.ofInt i < 0 := by
  rw [← z_0, z_lt ⟨by omega, h1⟩ z_in0]
  omega
theorem z_ne0 {y : Int} (hy : qin y) (h : ¬ y = 0) : ¬ Int32.ofInt y = 0 := by
  rw [← z_0, z_eq hy z_in0]
  exact h
theorem z_div {x y : Int} (hx : qin x) (hy : qin y) : Int32.ofInt x / Int32.ofInt y = Int32.ofInt (x.tdiv y) := by
  apply Int32.toInt_inj.mp
  rw [Int32.toInt_div, z_t hx, z_t hy, Int32.toInt_ofInt]
theorem z_rem {x y : Int} (hx : qin x) (hy : qin y) : Int32.ofInt x - Int32.ofInt x / Int32.ofInt y * Int32.ofInt y = Int32.ofInt (x.tmod y) := by
  rw [z_div hx hy, ← Int32.ofInt_mul, ← Int32.ofInt_sub]
  congr 1
  have := Int.mul_tdiv_add_tmod x y
  rw [Int.mul_comm] at this
  omega
theorem z_b {n : Int} (h : -128 ≤ n ∧ n ≤ 127) : (Int8.ofInt n).toInt32 = Int32.ofInt n := by
  apply Int32.toInt_inj.mp
  rw [Int8.toInt_toInt32, z_t ⟨by omega, by omega⟩, Int8.toInt_ofInt_of_le h.1 (by omega)]
theorem z_s {n : Int} (h : -32768 ≤ n ∧ n ≤ 32767) : (Int16.ofInt n).toInt32 = Int32.ofInt n := by
  apply Int32.toInt_inj.mp
  rw [Int16.toInt_toInt32, z_t ⟨by omega, by omega⟩, Int16.toInt_ofInt_of_le h.1 (by omega)]
theorem z_l {x : Int} (h : qin x) : (Int32.ofInt x).toInt64 = Int64.ofInt x := by
  apply Int64.toInt_inj.mp
  rw [Int32.toInt_toInt64, z_t h, Int64.toInt_ofInt_of_le (by omega) (by omega)]
theorem z_lcmp (x y : Int64) : lg_cmp x y = Int32.ofInt (qlcmp x y) := by
  unfold lg_cmp qlcmp
  by_cases h : y < x
  · rw [if_pos h, if_pos h]; rfl
  · rw [if_neg h, if_neg h]
    by_cases h2 : x = y
    · rw [if_pos h2, if_pos h2]; rfl
    · rw [if_neg h2, if_neg h2]; rfl
theorem z_max {x y : Int} (hx : qin x) (hy : qin y) : (if Int32.ofInt x < Int32.ofInt y then Int32.ofInt y else Int32.ofInt x) = Int32.ofInt (max x y) := by
  by_cases h : x < y
  · rw [if_pos ((z_lt hx hy).mpr h)]; congr 1; omega
  · rw [if_neg (fun q => h ((z_lt hx hy).mp q))]; congr 1; omega
theorem z_min {x y : Int} (hx : qin x) (hy : qin y) : (if Int32.ofInt y < Int32.ofInt x then Int32.ofInt y else Int32.ofInt x) = Int32.ofInt (min x y) := by
  by_cases h : y < x
  · rw [if_pos ((z_lt hy hx).mpr h)]; congr 1; omega
  · rw [if_neg (fun q => h ((z_lt hy hx).mp q))]; congr 1; omega
/-! ===== what a pattern of the stack says ===== -/
section
variable {ls : qL} {k : Nat} {st : List qV}
theorem q1i_o {F : Int → List qV → Prop} (h : q1i st F) : ∃ (x : Int) (r : List qV), st = .inl x :: r ∧ F x r := by
  unfold q1i at h; split at h
  · exact ⟨_, _, rfl, h⟩
  · exact h.elim
theorem q2i_o {F : Int → Int → List qV → Prop} (h : q2i st F) : ∃ (x : Int) (y : Int) (r : List qV), st = .inl y :: .inl x :: r ∧ F x y r := by
  unfold q2i at h; split at h
  · exact ⟨_, _, _, rfl, h⟩
  · exact h.elim
theorem q1l_o {F : Int64 → List qV → Prop} (h : q1l st F) : ∃ (x : Int64) (r : List qV), st = .inr (.inl x) :: r ∧ F x r := by
  unfold q1l at h; split at h
  · exact ⟨_, _, rfl, h⟩
  · exact h.elim
theorem q2l_o {F : Int64 → Int64 → List qV → Prop} (h : q2l st F) : ∃ (x : Int64) (y : Int64) (r : List qV), st = .inr (.inl y) :: .inr (.inl x) :: r ∧ F x y r := by
  unfold q2l at h; split at h
  · exact ⟨_, _, _, rfl, h⟩
  · exact h.elim
theorem qli_o {F : Int64 → Int → List qV → Prop} (h : qli st F) : ∃ (x : Int64) (y : Int) (r : List qV), st = .inl y :: .inr (.inl x) :: r ∧ F x y r := by
  unfold qli at h; split at h
  · exact ⟨_, _, _, rfl, h⟩
  · exact h.elim
theorem q1r_o {F : Nat → List qV → Prop} (h : q1r st F) : ∃ (n : Nat) (r : List qV), st = .inr (.inr (some n)) :: r ∧ F n r := by
  unfold q1r at h; split at h
  · exact ⟨_, _, rfl, h⟩
  · exact h.elim
theorem qir_o {F : Int → Nat → List qV → Prop} (h : qir st F) : ∃ (i : Int) (n : Nat) (r : List qV), st = .inl i :: .inr (.inr (some n)) :: r ∧ F i n r := by
  unfold qir at h; split at h
  · exact ⟨_, _, _, rfl, h⟩
  · exact h.elim
theorem qiir_o {F : Int → Int → Nat → List qV → Prop} (h : qiir st F) : ∃ (v : Int) (i : Int) (n : Nat) (r : List qV), st = .inl v :: .inl i :: .inr (.inr (some n)) :: r ∧ F v i n r := by
  unfold qiir at h; split at h
  · exact ⟨_, _, _, _, rfl, h⟩
  · exact h.elim
theorem qlir_o {F : Int64 → Int → Nat → List qV → Prop} (h : qlir st F) : ∃ (v : Int64) (i : Int) (n : Nat) (r : List qV), st = .inr (.inl v) :: .inl i :: .inr (.inr (some n)) :: r ∧ F v i n r := by
  unfold qlir at h; split at h
  · exact ⟨_, _, _, _, rfl, h⟩
  · exact h.elim
theorem qvr_o {F : qV → Nat → List qV → Prop} (h : qvr st F) : ∃ (v : qV) (n : Nat) (r : List qV), st = v :: .inr (.inr (some n)) :: r ∧ F v n r := by
  unfold qvr at h; split at h
  · exact ⟨_, _, _, rfl, h⟩
  · exact h.elim
theorem q1v_o {F : qV → List qV → Prop} (h : q1v st F) : ∃ (v : qV) (r : List qV), st = v :: r ∧ F v r := by
  unfold q1v at h; split at h
  · exact ⟨_, _, rfl, h⟩
  · exact h.elim
theorem q2v_o {F : qV → qV → List qV → Prop} (h : q2v st F) : ∃ (v : qV) (w : qV) (r : List qV), st = v :: w :: r ∧ F v w r := by
  unfold q2v at h; split at h
  · exact ⟨_, _, _, rfl, h⟩
  · exact h.elim
theorem qcp5_o {F : Nat → Int → Nat → Int → Int → List qV → Prop} (h : qcp5 st F) : ∃ (sr : Nat) (sp : Int) (d : Nat) (dp : Int) (n : Int) (r : List qV), st = .inl n :: .inl dp :: .inr (.inr (some d)) :: .inl sp :: .inr (.inr (some sr)) :: r ∧ F sr sp d dp n r := by
  unfold qcp5 at h; split at h
  · exact ⟨_, _, _, _, _, _, rfl, h⟩
  · exact h.elim
theorem qil_o {F : Int → Prop} (h : qil ls k F) : ∃ z : Int, ls[k]? = some (some (.inl z)) ∧ F z := by
  unfold qil at h; split at h
  next z e => exact ⟨z, e, h⟩
  next => exact h.elim
theorem qll_o {F : Int64 → Prop} (h : qll ls k F) : ∃ z : Int64, ls[k]? = some (some (.inr (.inl z))) ∧ F z := by
  unfold qll at h; split at h
  next z e => exact ⟨z, e, h⟩
  next => exact h.elim
theorem qal_o {F : Nat → Prop} (h : qal ls k F) : ∃ z : Nat, ls[k]? = some (some (.inr (.inr (some z)))) ∧ F z := by
  unfold qal at h; split at h
  next z e => exact ⟨z, e, h⟩
  next => exact h.elim
theorem qso_o {α : Type} {o : Option α} {F : α → Prop} (h : qso o F) : ∃ v, o = some v ∧ F v := by
  unfold qso at h; split at h
  · exact ⟨_, rfl, h⟩
  · exact h.elim
theorem qob_o {c : qC} {ci : Nat} {F : List qV → Prop} (h : qob c ci F) : ∃ fs, c = .inl (ci, fs) ∧ F fs := by
  unfold qob at h; split at h
  · obtain ⟨rfl, h⟩ := h; exact ⟨_, rfl, h⟩
  · exact h.elim
theorem qai_o {c : qC} {ty : Nat} {F : Nat → (Nat → Int) → Prop} (h : qai c ty F) : ∃ n f, c = .inr (ty, n, .inl f) ∧ F n f := by
  unfold qai at h; split at h
  · obtain ⟨rfl, h⟩ := h; exact ⟨_, _, rfl, h⟩
  · exact h.elim
theorem qalg_o {c : qC} {F : Nat → (Nat → Int64) → Prop} (h : qalg c F) : ∃ n f, c = .inr (2, n, .inr (.inl f)) ∧ F n f := by
  unfold qalg at h; split at h
  · obtain ⟨rfl, h⟩ := h; exact ⟨_, _, rfl, h⟩
  · exact h.elim
theorem qar_o {c : qC} {F : Nat → (Nat → Option Nat) → Prop} (h : qar c F) : ∃ t n f, c = .inr (t, n, .inr (.inr f)) ∧ (t = 3 ∨ t = 4) ∧ F n f := by
  unfold qar at h; split at h
  · exact ⟨_, _, _, rfl, h.1, h.2⟩
  · exact h.elim
theorem qaln_o {c : qC} {F : Nat → Prop} (h : qaln c F) : ∃ t n g, c = .inr (t, n, g) ∧ t < 5 ∧ F n := by
  unfold qaln at h; split at h
  · exact ⟨_, _, _, rfl, h.1, h.2⟩
  · exact h.elim
theorem qcpc_o {cs cd : qC} {F : Nat → (Nat → Int) → Nat → (Nat → Int) → Prop} {G : Nat → (Nat → Int64) → Nat → (Nat → Int64) → Prop} (h : qcpc cs cd F G) : (∃ n0 f n1 g, cs = .inr (0, n0, .inl f) ∧ cd = .inr (0, n1, .inl g) ∧ F n0 f n1 g) ∨ ∃ n0 f n1 g, cs = .inr (2, n0, .inr (.inl f)) ∧ cd = .inr (2, n1, .inr (.inl g)) ∧ G n0 f n1 g := by
  unfold qcpc at h; split at h
  · obtain ⟨rfl, rfl, h⟩ := h; exact Or.inl ⟨_, _, _, _, rfl, rfl, h⟩
  · obtain ⟨rfl, rfl, h⟩ := h; exact Or.inr ⟨_, _, _, _, rfl, rfl, h⟩
  · exact h.elim
end
/-! ===== the machine's world by names ===== -/
def qtv (α : Nat → Nat) : qV → Value
  | .inl z => .int (Int32.ofInt z)
  | .inr (.inl x) => .long x
  | .inr (.inr (some n)) => .ref (α n)
  | .inr (.inr none) => .null
def qtc (α : Nat → Nat) (cs : Nat → ClassId) : qC → va_E
  | .inl (ci, fs) => .inr (ci, fs.map (qtv α))
  | .inr (ty, n, .inl f) => .inl (cs ty, n, .inl (fun j => Int32.ofInt (f j)))
  | .inr (ty, n, .inr (.inl f)) => .inl (cs ty, n, .inr (.inl f))
  | .inr (ty, n, .inr (.inr f)) => .inl (cs ty, n, .inr (.inr (.inr (.inr (fun j => (f j).map α)))))
def qws (α : Nat → Nat) (cs : Nat → ClassId) (h : qH) : va_W := (List.range qNW).map (fun i => (α i, qtc α cs (h i)))
theorem qws_get {α : Nat → Nat} {cs : Nat → ClassId} {h : qH} {i : Nat} (hi : i < qNW) : (qws α cs h)[i]? = some (α i, qtc α cs (h i)) := by
  unfold qws
  rw [List.getElem?_map, List.getElem?_range hi]
  rfl
theorem qws_set {α : Nat → Nat} {cs : Nat → ClassId} {h : qH} {k : Nat} {c : qC} (hk : k < qNW) : (qws α cs h).set k (α k, qtc α cs c) = qws α cs (qS h k c) := by
  apply List.ext_getElem?
  intro i
  by_cases hi : i < qNW
  · rw [qws_get hi]
    by_cases e : i = k
    · subst e
      rw [List.getElem?_set_self (by simp [qws, hi]), qS_same]
    · rw [List.getElem?_set_ne (Ne.symm e), qws_get hi, qS_ne e]
  · rw [List.getElem?_eq_none (by simp [qws]; omega), List.getElem?_eq_none (by simp [qws]; omega)]
/-- the locals that are known -/
def qlv (α : Nat → Nat) (ls : qL) : List (Nat × Value) := (List.range ls.length).filterMap (fun i => match ls[i]? with
  | some (some v) => some (i, qtv α v)
  | _ => none)
theorem qlv_mem {α : Nat → Nat} {ls : qL} {q : Nat × Value} : q ∈ qlv α ls ↔ ∃ v, ls[q.1]? = some (some v) ∧ q.2 = qtv α v := by
  unfold qlv
  rw [List.mem_filterMap]
  constructor
  · rintro ⟨i, hi, h⟩
    split at h
    next v e =>
      cases h
      exact ⟨v, e, rfl⟩
    next => cases h
  · rintro ⟨v, e, h⟩
    refine ⟨q.1, List.mem_range.mpr (List.getElem?_eq_some_iff.mp e).1, ?_⟩
    rw [e]
    simp [← h]
theorem qlv_at {α : Nat → Nat} {ls : qL} {lsR : Array Slot} {nL k : Nat} {v : qV} (hl : lv_has lsR nL (qlv α ls)) (hk : ls[k]? = some (some v)) : lsR[k]? = some (.val (qtv α v)) := hl.2.2 (k, qtv α v) (qlv_mem.mpr ⟨v, hk, rfl⟩)
theorem qlv_mono {lsR : Array Slot} {nL : Nat} {l l' : List (Nat × Value)} (hl : lv_has lsR nL l) (h : ∀ q ∈ l', q ∈ l) : lv_has lsR nL l' := ⟨hl.1, hl.2.1, fun q hq => hl.2.2 q (h q hq)⟩
/-- longs lie in their slots alone -/
def qLS (LS : List Nat) (ls : qL) : Prop := ∀ (i : Nat) (x : Int64), ls[i]? = some (some (.inr (.inl x))) → i ∈ LS
theorem qcat_t (α : Nat → Nat) (v : qV) : (qtv α v).category = qcat v := by
  rcases v with z | x | n | n <;> rfl
theorem qcs_t (α : Nat → Nat) : ∀ st : List qV, ((st.map (qtv α)).map fun v => v.category).sum = qcs st
  | [] => rfl
  | v :: r => by
    simp only [List.map_cons, List.sum_cons, qcs]
    rw [qcat_t, qcs_t α r]
theorem qset_len (ls : qL) (k fl : Nat) (v : qV) : (qset ls k fl v).length = ls.length := by
  unfold qset; split <;> simp
theorem qset2_len (ls : qL) (k fl : Nat) (v : qV) : (qset2 ls k fl v).length = ls.length := by
  unfold qset2
  split
  · simp
  · split <;> simp
/-- a slot that is stored to, and what the others hold behind it -/
theorem qset_get {ls : qL} {k fl i : Nat} {v w : qV} (h : (qset ls k fl v)[i]? = some (some w)) (hi : i ≠ k) : ls[i]? = some (some w) ∧ (fl ≠ 0 → i + 1 ≠ k) := by
  unfold qset at h
  split at h
  · rw [List.getElem?_set_ne (Ne.symm hi)] at h
    exact ⟨h, fun q => absurd rfl q⟩
  · rw [List.getElem?_set_ne (Ne.symm hi)] at h
    by_cases e : k - 1 = i
    · subst e
      rw [List.getElem?_set] at h
      simp at h
    · rw [List.getElem?_set_ne e] at h
      exact ⟨h, fun _ q => e (by omega)⟩
theorem qset_self {ls : qL} {k fl : Nat} {v : qV} (hk : k < ls.length) : (qset ls k fl v)[k]? = some (some v) := by
  unfold qset
  split
  · rw [List.getElem?_set_self hk]
  · rw [List.getElem?_set_self (by simpa using hk)]
theorem qset2_get {ls : qL} {k fl i : Nat} {v w : qV} (h : (qset2 ls k fl v)[i]? = some (some w)) (hi : i ≠ k) : ls[i]? = some (some w) ∧ i ≠ k + 1 ∧ (fl ≠ 0 → i + 1 ≠ k ∨ ∃ z : Int, w = .inl z) := by
  have keep : ((ls.set (k + 1) none).set k (some v))[i]? = some (some w) → ls[i]? = some (some w) ∧ i ≠ k + 1 := by
    intro h
    rw [List.getElem?_set_ne (Ne.symm hi)] at h
    by_cases e : k + 1 = i
    · subst e
      rw [List.getElem?_set] at h
      simp at h
    · rw [List.getElem?_set_ne e] at h
      exact ⟨h, Ne.symm e⟩
  unfold qset2 at h
  split at h
  · obtain ⟨h1, h2⟩ := keep h
    exact ⟨h1, h2, fun q => absurd rfl q⟩
  · split at h
    next z hz =>
      obtain ⟨h1, h2⟩ := keep h
      refine ⟨h1, h2, fun _ => ?_⟩
      by_cases e : i + 1 = k
      · right
        rw [show k - 1 = i by omega, h1] at hz
        cases hz
        exact ⟨_, rfl⟩
      · exact Or.inl e
    next =>
      rw [List.getElem?_set_ne (Ne.symm hi)] at h
      by_cases e : k + 1 = i
      · subst e
        rw [List.getElem?_set] at h
        simp at h
      · rw [List.getElem?_set_ne e] at h
        by_cases e2 : k - 1 = i
        · subst e2
          rw [List.getElem?_set] at h
          simp at h
        · rw [List.getElem?_set_ne e2] at h
          exact ⟨h, Ne.symm e, fun _ => Or.inl (fun q => e2 (by omega))⟩
theorem qset2_self {ls : qL} {k fl : Nat} {v : qV} (hk : k < ls.length) : (qset2 ls k fl v)[k]? = some (some v) := by
  unfold qset2
  split
  · rw [List.getElem?_set_self (by simpa using hk)]
  · split
    · rw [List.getElem?_set_self (by simpa using hk)]
    · rw [List.getElem?_set_self (by simpa using hk)]
theorem qLS_set {LS : List Nat} {ls : qL} {k fl : Nat} {v : qV} (h : qLS LS ls) (hk : k < ls.length) (hv : ∀ x : Int64, v ≠ .inr (.inl x)) : qLS LS (qset ls k fl v) := by
  intro i x hi
  by_cases e : i = k
  · subst e
    rw [qset_self hk] at hi
    cases hi
    exact absurd rfl (hv x)
  · exact h i x (qset_get hi e).1
theorem qLS_set2 {LS : List Nat} {ls : qL} {k fl : Nat} {x0 : Int64} (h : qLS LS ls) (hk : k ∈ LS) : qLS LS (qset2 ls k fl (.inr (.inl x0))) := by
  intro i x hi
  by_cases e : i = k
  · subst e
    exact hk
  · exact h i x (qset2_get hi e).1
/-- behind a store of one slot -/
theorem qlv_set {α : Nat → Nat} {LS : List Nat} {ls : qL} {ls' : Array Slot} {nL k fl : Nat} {v : qV} (hLS : qLS LS ls) (hfl : fl ≠ 0 ∨ ∀ j ∈ LS, j + 1 ≠ k) (hl : lv_has ls' nL ((k, qtv α v) :: (qlv α ls).filter (fun q => !(q.1 == k) && !(q.1 + 1 == k && q.2.category == 2)))) (hk : k < ls.length) : lv_has ls' nL (qlv α (qset ls k fl v)) := by
  refine qlv_mono hl fun q hq => ?_
  obtain ⟨w, h1, h2⟩ := qlv_mem.mp hq
  by_cases e : q.1 = k
  · rw [e, qset_self hk] at h1
    cases h1
    rw [show q = (k, qtv α v) from Prod.ext e h2]
    exact List.mem_cons_self
  · obtain ⟨h3, h4⟩ := qset_get h1 e
    refine List.mem_cons_of_mem _ (List.mem_filter.mpr ⟨qlv_mem.mpr ⟨w, h3, h2⟩, ?_⟩)
    simp only [Bool.and_eq_true, Bool.not_eq_true', beq_eq_false_iff_ne, ne_eq, e, not_false_eq_true, true_and, Bool.and_eq_false_imp, beq_iff_eq]
    intro e1 e2
    rcases hfl with z | z
    · exact h4 z e1
    · rcases w with w | w | w | w
      · rw [h2] at e2; cases e2
      · exact z q.1 (hLS q.1 w h3) e1
      · rw [h2] at e2; cases e2
      · rw [h2] at e2; cases e2
theorem qlv_set2 {α : Nat → Nat} {LS : List Nat} {ls : qL} {ls' : Array Slot} {nL k fl : Nat} {v : qV} (hLS : qLS LS ls) (hfl : fl ≠ 0 ∨ ∀ j ∈ LS, j + 1 ≠ k) (hl : lv_has ls' nL ((k, qtv α v) :: (qlv α ls).filter (fun q => !(q.1 == k) && (!(q.1 == k + 1) && !(q.1 + 1 == k && q.2.category == 2))))) (hk : k < ls.length) : lv_has ls' nL (qlv α (qset2 ls k fl v)) := by
  refine qlv_mono hl fun q hq => ?_
  obtain ⟨w, h1, h2⟩ := qlv_mem.mp hq
  by_cases e : q.1 = k
  · rw [e, qset2_self hk] at h1
    cases h1
    rw [show q = (k, qtv α v) from Prod.ext e h2]
    exact List.mem_cons_self
  · obtain ⟨h3, h5, h4⟩ := qset2_get h1 e
    refine List.mem_cons_of_mem _ (List.mem_filter.mpr ⟨qlv_mem.mpr ⟨w, h3, h2⟩, ?_⟩)
    simp only [Bool.and_eq_true, Bool.not_eq_true', beq_eq_false_iff_ne, ne_eq, e, not_false_eq_true, true_and, Bool.and_eq_false_imp, beq_iff_eq, h5]
    intro e1 e2
    rcases hfl with z | z
    · rcases h4 z with h5 | ⟨y, h5⟩
      · exact h5 e1
      · rw [h2, h5] at e2
        cases e2
    · rcases w with w | w | w | w
      · rw [h2] at e2; cases e2
      · exact z q.1 (hLS q.1 w h3) e1
      · rw [h2] at e2; cases e2
      · rw [h2] at e2; cases e2
/-- from such a frame, with every heap that holds the world, the machine comes to Q -/
def qG (p : Program) (l : Launch) (e : Env) (Rm : Room) (s : State) (m : MethodId) (args : Array Value) (below : List Frame) (meth : Method) (c : Code) (cells slots : Nat) (Q : State → Prop) (α : Nat → Nat) (cs : Nat → ClassId) (D : va_G) (base nL : Nat) (LS : List Nat) (ro : Nat → qC) (pc : Nat) (ls : qL) (st : List qV) (h : qH) : Prop :=
  ∀ (H : Heap) (locs : List Loc) (lsR : Array Slot), va_P D vwCl (qws α cs h) H → va_D (fun q => base ≤ q) (qws α cs h) → va_S (fun q => base ≤ q) s.heap H locs → lv_has lsR nL (qlv α ls) → ls.length = nL → qLS LS ls → (∀ n, qNW ≤ n → h n = ro n) → W p l e Rm s m args below meth c H locs cells slots Q (F0 m pc lsR (st.map (qtv α)))

