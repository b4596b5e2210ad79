/-! ===== the class: a node's numbers as they are written ===== -/
theorem wr6 {f : Nat → Int} {i x y w hh fr b : Int} (hi : 0 ≤ i) : ∃ F, F = qU (qU (qU (qU (qU (qU f (i * 8 + 1).toNat x) (i * 8 + 2).toNat y) (i * 8 + 3).toNat w) (i * 8 + 4).toNat hh) (i * 8 + 6).toNat fr) (i * 8 + 7).toNat b ∧ Kep f F i ∧ F (i * 8 + 1).toNat = x ∧ F (i * 8 + 2).toNat = y ∧ F (i * 8 + 3).toNat = w ∧ F (i * 8 + 4).toNat = hh ∧ F (i * 8 + 6).toNat = fr ∧ F (i * 8 + 7).toNat = b := by
  refine ⟨_, rfl, fun j h1 h2 => ?_, ?_, ?_, ?_, ?_, ?_, ?_⟩
  · rw [qU_b (by omega) (by omega) (by omega), qU_b (by omega) (by omega) (by omega), qU_b (by omega) (by omega) (by omega), qU_b (by omega) (by omega) (by omega), qU_b (by omega) (by omega) (by omega), qU_b (by omega) (by omega) (by omega)]
  · rw [qU_b (by omega) (by omega) (by omega), qU_b (by omega) (by omega) (by omega), qU_b (by omega) (by omega) (by omega), qU_b (by omega) (by omega) (by omega), qU_b (by omega) (by omega) (by omega), qU_a (by omega)]
  · rw [qU_b (by omega) (by omega) (by omega), qU_b (by omega) (by omega) (by omega), qU_b (by omega) (by omega) (by omega), qU_b (by omega) (by omega) (by omega), qU_a (by omega)]
  · rw [qU_b (by omega) (by omega) (by omega), qU_b (by omega) (by omega) (by omega), qU_b (by omega) (by omega) (by omega), qU_a (by omega)]
  · rw [qU_b (by omega) (by omega) (by omega), qU_b (by omega) (by omega) (by omega), qU_a (by omega)]
  · rw [qU_b (by omega) (by omega) (by omega), qU_a (by omega)]
  · rw [qU_a (by omega)]
theorem wr6n {f F : Nat → Int} {i x y w hh fr b kd nu : Int} (hi : 0 ≤ i) (hk : Kep f F i) (v1 : F (i * 8 + 1).toNat = x) (v2 : F (i * 8 + 2).toNat = y) (v3 : F (i * 8 + 3).toNat = w) (v4 : F (i * 8 + 4).toNat = hh) (v6 : F (i * 8 + 6).toNat = fr) (v7 : F (i * 8 + 7).toNat = b) : Kep f (qU (qU F (i * 8 + 0).toNat kd) (i * 8 + 5).toNat nu) i ∧ Nds (qU (qU F (i * 8 + 0).toNat kd) (i * 8 + 5).toNat nu) i [[kd, x, y, w, hh, nu, fr, b]] := by
  rw [show i * 8 = 8 * i by omega] at v1 v2 v3 v4 v6 v7
  refine ⟨fun j h1 h2 => ?_, Nds_1 ?_ ?_ ?_ ?_ ?_ ?_ ?_ ?_⟩
  · rw [qU_b (by omega) (by omega) (by omega), qU_b (by omega) (by omega) (by omega)]
    exact hk j h1 h2
  · rw [qU_b (by omega) (by omega) (by omega), qU_a (by omega)]
  · rw [qU_b (by omega) (by omega) (by omega), qU_b (by omega) (by omega) (by omega), v1]
  · rw [qU_b (by omega) (by omega) (by omega), qU_b (by omega) (by omega) (by omega), v2]
  · rw [qU_b (by omega) (by omega) (by omega), qU_b (by omega) (by omega) (by omega), v3]
  · rw [qU_b (by omega) (by omega) (by omega), qU_b (by omega) (by omega) (by omega), v4]
  · rw [qU_a (by omega)]
  · rw [qU_b (by omega) (by omega) (by omega), qU_b (by omega) (by omega) (by omega), v6]
  · rw [qU_b (by omega) (by omega) (by omega), qU_b (by omega) (by omega) (by omega), v7]
theorem nm_0 {F : Nat → Int} {i kd nu : Int} (hi : 0 ≤ i) : qU (qU F (i * 8 + 0).toNat kd) (i * 8 + 5).toNat nu (i * 8 + 0).toNat = kd := by
  rw [qU_b (by omega) (by omega) (by omega), qU_a (by omega)]
theorem nm_5 {F : Nat → Int} {i kd nu : Int} : qU (qU F (i * 8 + 0).toNat kd) (i * 8 + 5).toNat nu (i * 8 + 5).toNat = nu := by
  rw [qU_a (by omega)]
theorem RepS_k {h h' : qH} {su fa : Nat} {a : Nat → Int} {D : Int64} {ff : Nat → Int} (hS : RepS h su fa a D ff) (h1 : h' su = h su) (h2 : h' fa = h fa) : RepS h' su fa a D ff := ⟨h1.trans hS.1, h2.trans hS.2.1, hS.2.2⟩
theorem RepW_k {h h' : qH} {wo su tb : Nat} {t : Nat → Int} (hT : RepW h wo su tb t) (h1 : h' wo = h wo) (h2 : h' tb = h tb) (h3 : h' 1000 = h 1000) : RepW h' wo su tb t := ⟨h1.trans hT.1, h2.trans hT.2.1, h3.trans hT.2.2⟩
