/-! ===== numbers and lists of the plates ===== -/
theorem imp_i {P Q : Prop} (h : P → Q) : P → Q := h
theorem z_up {P : Int → Prop} {e : Int} (hs : ∀ j, j ≤ e → (j < e → P (j + 1)) → P j) : ∀ j, j ≤ e → P j := by
  have key : ∀ (n : Nat) (j : Int), e - j ≤ n → j ≤ e → P j := by
    intro n
    induction n with
    | zero => exact fun j h1 h2 => hs j h2 (fun h => by omega)
    | succ n ih => exact fun j h1 h2 => hs j h2 (fun h => ih (j + 1) (by omega) (by omega))
  exact fun j h => key (e - j).toNat j (by omega) h
theorem z_dn {P : Int → Prop} {e : Int} (hs : ∀ j, e ≤ j → (e < j → P (j - 1)) → P j) : ∀ j, e ≤ j → P j := by
  have key : ∀ (n : Nat) (j : Int), j - e ≤ n → e ≤ j → P j := by
    intro n
    induction n with
    | zero => exact fun j h1 h2 => hs j h2 (fun h => by omega)
    | succ n ih => exact fun j h1 h2 => hs j h2 (fun h => ih (j - 1) (by omega) (by omega))
  exact fun j h => key (j - e).toNat j (by omega) h
theorem qS_id {h : qH} {k : Nat} {c : qC} (e : h k = c) : qS h k c = h := by
  funext j
  unfold qS
  split
  next e2 => rw [e2, e]
  next => rfl
theorem qS_qS {h : qH} {k : Nat} {c c2 : qC} : qS (qS h k c) k c2 = qS h k c2 := by
  funext j
  unfold qS
  split <;> rfl
/-- the greatest of m and f 1 .. f n -/
def maxk : Nat → (Int → Int) → Int → Int
  | 0, _, m => m
  | n + 1, f, m => max (maxk n f m) (f (n + 1))
theorem maxk_0 (f : Int → Int) (m : Int) {k : Int} (hk : k ≤ 0) : maxk k.toNat f m = m := by
  rw [show k.toNat = 0 by omega]; rfl
theorem maxk_s (f : Int → Int) (m : Int) {k : Int} (hk : 1 ≤ k) : maxk k.toNat f m = max (maxk (k - 1).toNat f m) (f k) := by
  obtain ⟨n, hn⟩ : ∃ n : Nat, k = n + 1 := ⟨(k - 1).toNat, by omega⟩
  rw [show k.toNat = n + 1 by omega, show (k - 1).toNat = n by omega, hn]; rfl
theorem maxk_congr {f g : Int → Int} : ∀ (n : Nat) {m m' : Int}, m = m' → (∀ k : Int, 1 ≤ k → k ≤ n → f k = g k) → maxk n f m = maxk n g m'
  | 0, _, _, hm, _ => hm
  | n + 1, _, _, hm, h => by
    show max (maxk n f _) _ = max (maxk n g _) _
    rw [maxk_congr n hm (fun k h1 h2 => h k h1 (by omega)), h (n + 1) (by omega) (by omega)]
theorem maxk_ge (f : Int → Int) : ∀ (n : Nat) (m : Int), m ≤ maxk n f m
  | 0, _ => Int.le_refl _
  | n + 1, m => by
    have := maxk_ge f n m
    show m ≤ max (maxk n f m) _
    omega
theorem maxk_ge' (f : Int → Int) : ∀ (n : Nat) (m k : Int), 1 ≤ k → k ≤ n → f k ≤ maxk n f m
  | 0, _, k, h1, h2 => by omega
  | n + 1, m, k, h1, h2 => by
    show f k ≤ max (maxk n f m) (f (n + 1))
    by_cases e : k = n + 1
    · rw [e]; omega
    · have := maxk_ge' f n m k h1 (by omega)
      omega
theorem maxk_or (f : Int → Int) : ∀ (n : Nat) (m : Int), maxk n f m = m ∨ ∃ k : Int, 1 ≤ k ∧ k ≤ n ∧ maxk n f m = f k
  | 0, _ => Or.inl rfl
  | n + 1, m => by
    have e : maxk (n + 1) f m = max (maxk n f m) (f (n + 1)) := rfl
    rw [e]
    rcases maxk_or f n m with h | ⟨k, h1, h2, h3⟩
    · by_cases hc : maxk n f m ≤ f (n + 1)
      · exact Or.inr ⟨n + 1, by omega, by omega, by omega⟩
      · exact Or.inl (by omega)
    · by_cases hc : maxk n f m ≤ f (n + 1)
      · exact Or.inr ⟨n + 1, by omega, by omega, by omega⟩
      · exact Or.inr ⟨k, h1, by omega, by omega⟩
theorem maxk_le {f : Int → Int} {B : Int} : ∀ (n : Nat) {m : Int}, m ≤ B → (∀ k : Int, 1 ≤ k → k ≤ n → f k ≤ B) → maxk n f m ≤ B
  | 0, _, hm, _ => hm
  | n + 1, m, hm, h => by
    show max (maxk n f m) (f (n + 1)) ≤ B
    have h1 := maxk_le n hm (fun k a b => h k a (by omega))
    have h2 := h (n + 1) (by omega) (by omega)
    omega
abbrev qT : Type := Int → Int → Int → Int → Int
/-- what a cut at k gives, by a table -/
def cutv (T : qT) (K way x y w h k : Int) : Int :=
  if way = 0 then T x y k h + (if 0 < w - k - K then T (x + k + K) y (w - k - K) h else 0)
  else T x y w k + (if 0 < h - k - K then T x (y + k + K) w (h - k - K) else 0)
theorem cutv_0 (T : qT) (K x y w h k : Int) : cutv T K 0 x y w h k = T x y k h + (if 0 < w - k - K then T (x + k + K) y (w - k - K) h else 0) := if_pos rfl
theorem cutv_1 (T : qT) (K x y w h k : Int) : cutv T K 1 x y w h k = T x y w k + (if 0 < h - k - K then T x (y + k + K) w (h - k - K) else 0) := if_neg (by decide)
/-- one level: the cuts that are allowed, over T, and what T0 has -/
def lev (T T0 : qT) (K : Int) (u v : Bool) (x y w h : Int) : Int :=
  match v with
  | true => maxk (h - 1).toNat (cutv T K 1 x y w h) (match u with
    | true => maxk (w - 1).toNat (cutv T K 0 x y w h) (T0 x y w h)
    | false => T0 x y w h)
  | false => (match u with
    | true => maxk (w - 1).toNat (cutv T K 0 x y w h) (T0 x y w h)
    | false => T0 x y w h)
def clo (K : Int) (u v : Bool) (T0 : qT) : Nat → qT
  | 0 => T0
  | n + 1 => lev (clo K u v T0 n) T0 K u v
def Clo (K : Int) (u v : Bool) (T0 : qT) : qT := fun x y w h => clo K u v T0 (w + h).toNat x y w h
/-- cuts of smaller pieces alone are asked for -/
theorem lev_congr {T T' T0 T0' : qT} {K : Int} {u v : Bool} {x y w h : Int} (hK : 0 ≤ K) (h0 : T0 x y w h = T0' x y w h) (hT : ∀ x' y' w' h', x ≤ x' → y ≤ y' → 1 ≤ w' → 1 ≤ h' → x' + w' ≤ x + w → y' + h' ≤ y + h → w' + h' < w + h → T x' y' w' h' = T' x' y' w' h') (hw : 1 ≤ w) (hh : 1 ≤ h) : lev T T0 K u v x y w h = lev T' T0' K u v x y w h := by
  have c0 : ∀ k : Int, 1 ≤ k → k ≤ (w - 1).toNat → cutv T K 0 x y w h k = cutv T' K 0 x y w h k := by
    intro k h1 h2
    rw [cutv_0, cutv_0, hT x y k h (by omega) (by omega) (by omega) (by omega) (by omega) (by omega) (by omega)]
    split
    · rw [hT (x + k + K) y (w - k - K) h (by omega) (by omega) (by omega) (by omega) (by omega) (by omega) (by omega)]
    · rfl
  have c1 : ∀ k : Int, 1 ≤ k → k ≤ (h - 1).toNat → cutv T K 1 x y w h k = cutv T' K 1 x y w h k := by
    intro k h1 h2
    rw [cutv_1, cutv_1, hT x y w k (by omega) (by omega) (by omega) (by omega) (by omega) (by omega) (by omega)]
    split
    · rw [hT x (y + k + K) w (h - k - K) (by omega) (by omega) (by omega) (by omega) (by omega) (by omega) (by omega)]
    · rfl
  unfold lev
  cases u <;> cases v
  · exact h0
  · exact maxk_congr _ h0 c1
  · exact maxk_congr _ h0 c0
  · exact maxk_congr _ (maxk_congr _ h0 c0) c1
theorem clo_fuel {K : Int} {u v : Bool} {T0 : qT} (hK : 0 ≤ K) : ∀ (n m : Nat) (x y w h : Int), 1 ≤ w → 1 ≤ h → w + h ≤ n → w + h ≤ m → clo K u v T0 n x y w h = clo K u v T0 m x y w h
  | 0, m, x, y, w, h, h1, h2, h3, h4 => by omega
  | n + 1, 0, x, y, w, h, h1, h2, h3, h4 => by omega
  | n + 1, m + 1, x, y, w, h, h1, h2, h3, h4 => lev_congr hK rfl (fun x' y' w' h' _ _ a1 a2 _ _ a3 => clo_fuel hK n m x' y' w' h' a1 a2 (by omega) (by omega)) h1 h2
theorem Clo_eq {K : Int} {u v : Bool} {T0 : qT} (hK : 0 ≤ K) {x y w h : Int} (hw : 1 ≤ w) (hh : 1 ≤ h) : Clo K u v T0 x y w h = lev (Clo K u v T0) T0 K u v x y w h := by
  unfold Clo
  obtain ⟨n, hn⟩ : ∃ n : Nat, (w + h).toNat = n + 1 := ⟨(w + h).toNat - 1, by omega⟩
  rw [hn]
  exact lev_congr hK rfl (fun x' y' w' h' _ _ a1 a2 _ _ a3 => clo_fuel hK n _ x' y' w' h' a1 a2 (by omega) (by omega)) hw hh
/-- a bound by the squares -/
theorem mul_b {w h : Int} (h1 : 1 ≤ w) (h2 : w ≤ 7) (h3 : 1 ≤ h) (h4 : h ≤ 7) : 1 ≤ w * h ∧ w * h ≤ 49 := by
  have a1 : w * h ≤ 7 * h := Int.mul_le_mul_of_nonneg_right h2 (by omega)
  have a2 : 1 * h ≤ w * h := Int.mul_le_mul_of_nonneg_right h1 (by omega)
  omega
theorem mul_1 {w h : Int} (h1 : 1 ≤ w) (h3 : 1 ≤ h) : 1 ≤ w * h := by
  have a2 : 1 * h ≤ w * h := Int.mul_le_mul_of_nonneg_right h1 (by omega)
  omega
theorem cut_b {k w K h : Int} (hK : 0 ≤ K) (hh : 0 ≤ h) : k * h + (w - k - K) * h ≤ w * h := by
  have e : k * h + (w - k - K) * h = (w - K) * h := by rw [← Int.add_mul]; congr 1; omega
  rw [e]
  exact Int.mul_le_mul_of_nonneg_right (by omega) hh
theorem lev_b {T T0 : qT} {K : Int} {u v : Bool} {x y w h : Int} (hK : 0 ≤ K) (h0 : 0 ≤ T0 x y w h ∧ T0 x y w h ≤ 99 * (w * h)) (hT : ∀ x' y' w' h', x ≤ x' → y ≤ y' → 1 ≤ w' → 1 ≤ h' → x' + w' ≤ x + w → y' + h' ≤ y + h → w' + h' < w + h → 0 ≤ T x' y' w' h' ∧ T x' y' w' h' ≤ 99 * (w' * h')) (hw : 1 ≤ w) (hh : 1 ≤ h) : 0 ≤ lev T T0 K u v x y w h ∧ lev T T0 K u v x y w h ≤ 99 * (w * h) := by
  have c0 : ∀ k : Int, 1 ≤ k → k ≤ (w - 1).toNat → 0 ≤ cutv T K 0 x y w h k ∧ cutv T K 0 x y w h k ≤ 99 * (w * h) := by
    intro k h1 h2
    rw [cutv_0]
    have a1 := hT x y k h (by omega) (by omega) (by omega) (by omega) (by omega) (by omega) (by omega)
    have a3 : k * h ≤ w * h := Int.mul_le_mul_of_nonneg_right (by omega) (by omega)
    split
    · have a2 := hT (x + k + K) y (w - k - K) h (by omega) (by omega) (by omega) (by omega) (by omega) (by omega) (by omega)
      have a4 := cut_b (k := k) (w := w) hK (show 0 ≤ h by omega)
      omega
    · omega
  have c1 : ∀ k : Int, 1 ≤ k → k ≤ (h - 1).toNat → 0 ≤ cutv T K 1 x y w h k ∧ cutv T K 1 x y w h k ≤ 99 * (w * h) := by
    intro k h1 h2
    rw [cutv_1]
    have a1 := hT x y w k (by omega) (by omega) (by omega) (by omega) (by omega) (by omega) (by omega)
    have a3 : w * k ≤ w * h := Int.mul_le_mul_of_nonneg_left (by omega) (by omega)
    split
    · have a2 := hT x (y + k + K) w (h - k - K) (by omega) (by omega) (by omega) (by omega) (by omega) (by omega) (by omega)
      have a4 := cut_b (k := k) (w := h) hK (show 0 ≤ w by omega)
      rw [Int.mul_comm k w, Int.mul_comm (h - k - K) w, Int.mul_comm h w] at a4
      omega
    · omega
  have m0 : 0 ≤ maxk (w - 1).toNat (cutv T K 0 x y w h) (T0 x y w h) ∧ maxk (w - 1).toNat (cutv T K 0 x y w h) (T0 x y w h) ≤ 99 * (w * h) := ⟨Int.le_trans h0.1 (maxk_ge _ _ _), maxk_le _ h0.2 (fun k a b => (c0 k a b).2)⟩
  unfold lev
  cases u <;> cases v
  · exact h0
  · exact ⟨Int.le_trans h0.1 (maxk_ge _ _ _), maxk_le _ h0.2 (fun k a b => (c1 k a b).2)⟩
  · exact m0
  · exact ⟨Int.le_trans m0.1 (maxk_ge _ _ _), maxk_le _ m0.2 (fun k a b => (c1 k a b).2)⟩
theorem clo_b {K : Int} {u v : Bool} {T0 : qT} (hK : 0 ≤ K) (hT : ∀ x y w h, 1 ≤ w → 1 ≤ h → 0 ≤ T0 x y w h ∧ T0 x y w h ≤ 99 * (w * h)) : ∀ (n : Nat) (x y w h : Int), 1 ≤ w → 1 ≤ h → 0 ≤ clo K u v T0 n x y w h ∧ clo K u v T0 n x y w h ≤ 99 * (w * h)
  | 0, x, y, w, h, h1, h2 => hT x y w h h1 h2
  | n + 1, x, y, w, h, h1, h2 => lev_b hK (hT x y w h h1 h2) (fun x' y' w' h' _ _ a1 a2 _ _ _ => clo_b hK hT n x' y' w' h' a1 a2) h1 h2
theorem Clo_b {K : Int} {u v : Bool} {T0 : qT} (hK : 0 ≤ K) (hT : ∀ x y w h, 1 ≤ w → 1 ≤ h → 0 ≤ T0 x y w h ∧ T0 x y w h ≤ 99 * (w * h)) (x y w h : Int) (h1 : 1 ≤ w) (h2 : 1 ≤ h) : 0 ≤ Clo K u v T0 x y w h ∧ Clo K u v T0 x y w h ≤ 99 * (w * h) := clo_b hK hT _ x y w h h1 h2
