/-! ===== the constructors: rows with the array classes fixed ===== -/
section CN
variable {p : Program} {l : Launch} {e : Env} {R : Room} {s : State} {m : MethodId} {args : Array Value} {below : List Frame} {meth : Method} {c : Code} {H : Heap} {locs : List Loc} {cells slots : Nat} {Q : State → Prop} {cs : Nat → ClassId} {D : va_G} {A : Nat → Prop} {cc : ByteArray} {pc : Nat} {ls : Array Slot} {rest : List Value} {ws : va_W} {H0 : Heap}
abbrev cnI (cs : Nat → ClassId) (n : Nat) : va_E := .inl (cs 0, n, .inl (fun _ => 0))
abbrev cnB (cs : Nat → ClassId) (n : Nat) : va_E := .inl (cs 1, n, .inl (fun _ => 0))
abbrev cnL (cs : Nat → ClassId) (n : Nat) : va_E := .inl (cs 2, n, .inr (.inl (fun _ => 0)))
theorem cn_k {U : State} {k : Nat} {cA : ClassId} {ty : FieldType} (hK : va_K D vwCl (qtys cs) U) (hk : (qtys cs)[k]? = some (cA, ty)) (hno : ∀ C, ty ≠ .object C) {cB : ClassId} (h : U.vm.findClass ("[" ++ ty.toString) = some cB) : cB = cA := by
  have h2 := (hK.2 k _ hk).2
  cases ty with
  | object C => exact absurd rfl (hno C)
  | _ => exact Option.some.inj (h.symm.trans h2)
theorem cn_newi (hx : p.tables.exec = Jvm.exec) (hb : c.code = cc) (harr : (Cond.arrayClass .int).before args s = true) (hK : va_K D vwCl (qtys cs) s) (hP : va_P D vwCl ws H) (hD : va_D A ws) (hS : va_S A H0 H locs) (hA : ∀ q, H0.size ≤ q → A q)
    {n : Int32} {N' : Nat} (hn : ¬ n < 0) (hN : n.toNatClampNeg = N') (hbytes : N' * 4 ≤ 536870912) (hcells : cells + 1 ≤ R.cells) (hslots : slots + N' ≤ R.slots) (hdg : decode cc pc = .ok (.newarray .int, 2))
    (kk : ∀ (q : Nat) (H1 : Heap), va_P D vwCl (ws ++ [(q, cnI cs N')]) H1 → va_D A (ws ++ [(q, cnI cs N')]) → va_S A H0 H1 locs → W p l e R s m args below meth c H1 locs (cells + 1) (slots + N') Q (F0 m (pc + 2) ls (.ref q :: rest))) : W p l e R s m args below meth c H locs cells slots Q (F0 m pc ls (.int n :: rest)) := by
  refine va_newa (atype := .int) (ty := .int) (a0 := (N', .inl (fun _ => 0))) hx hb harr rfl hK hP hD hS hA (fun _ => rfl) hn hN hbytes hcells hslots hdg (fun q cA H1 hK1 hP1 hD1 hS1 => ?_)
  have h2 := (hK1.2 5 (cA, .int) rfl).2
  have e1 := cn_k hK (k := 0) rfl (fun C h => by cases h) h2
  subst e1
  exact kk q H1 hP1 hD1 hS1
theorem cn_newb (hx : p.tables.exec = Jvm.exec) (hb : c.code = cc) (harr : (Cond.arrayClass .byte).before args s = true) (hK : va_K D vwCl (qtys cs) s) (hP : va_P D vwCl ws H) (hD : va_D A ws) (hS : va_S A H0 H locs) (hA : ∀ q, H0.size ≤ q → A q)
    {n : Int32} {N' : Nat} (hn : ¬ n < 0) (hN : n.toNatClampNeg = N') (hbytes : N' * 1 ≤ 536870912) (hcells : cells + 1 ≤ R.cells) (hslots : slots + N' ≤ R.slots) (hdg : decode cc pc = .ok (.newarray .byte, 2))
    (kk : ∀ (q : Nat) (H1 : Heap), va_P D vwCl (ws ++ [(q, cnB cs N')]) H1 → va_D A (ws ++ [(q, cnB cs N')]) → va_S A H0 H1 locs → W p l e R s m args below meth c H1 locs (cells + 1) (slots + N') Q (F0 m (pc + 2) ls (.ref q :: rest))) : W p l e R s m args below meth c H locs cells slots Q (F0 m pc ls (.int n :: rest)) := by
  refine va_newa (atype := .byte) (ty := .byte) (a0 := (N', .inl (fun _ => 0))) hx hb harr rfl hK hP hD hS hA (fun _ => rfl) hn hN hbytes hcells hslots hdg (fun q cA H1 hK1 hP1 hD1 hS1 => ?_)
  have h2 := (hK1.2 5 (cA, .byte) rfl).2
  have e1 := cn_k hK (k := 1) rfl (fun C h => by cases h) h2
  subst e1
  exact kk q H1 hP1 hD1 hS1
theorem cn_newl (hx : p.tables.exec = Jvm.exec) (hb : c.code = cc) (harr : (Cond.arrayClass .long).before args s = true) (hK : va_K D vwCl (qtys cs) s) (hP : va_P D vwCl ws H) (hD : va_D A ws) (hS : va_S A H0 H locs) (hA : ∀ q, H0.size ≤ q → A q)
    {n : Int32} {N' : Nat} (hn : ¬ n < 0) (hN : n.toNatClampNeg = N') (hbytes : N' * 8 ≤ 536870912) (hcells : cells + 1 ≤ R.cells) (hslots : slots + N' ≤ R.slots) (hdg : decode cc pc = .ok (.newarray .long, 2))
    (kk : ∀ (q : Nat) (H1 : Heap), va_P D vwCl (ws ++ [(q, cnL cs N')]) H1 → va_D A (ws ++ [(q, cnL cs N')]) → va_S A H0 H1 locs → W p l e R s m args below meth c H1 locs (cells + 1) (slots + N') Q (F0 m (pc + 2) ls (.ref q :: rest))) : W p l e R s m args below meth c H locs cells slots Q (F0 m pc ls (.int n :: rest)) := by
  refine va_newa (atype := .long) (ty := .long) (a0 := (N', .inr (.inl (fun _ => 0)))) hx hb harr rfl hK hP hD hS hA (fun _ => rfl) hn hN hbytes hcells hslots hdg (fun q cA H1 hK1 hP1 hD1 hS1 => ?_)
  have h2 := (hK1.2 5 (cA, .long) rfl).2
  have e1 := cn_k hK (k := 2) rfl (fun C h => by cases h) h2
  subst e1
  exact kk q H1 hP1 hD1 hS1
theorem cn_newq (hx : p.tables.exec = Jvm.exec) (hb : c.code = cc) {own : String} {index : Nat} (hown : s.vm.findClass own = some m.cls) (hclink : (Cond.classLink own index "PlateCuts$Tape").before args s = true) (hover : va_AO "PlateCuts$Tape" s) (hK : va_K D vwCl (qtys cs) s) (hP : va_P D vwCl ws H) (hD : va_D A ws) (hS : va_S A H0 H locs) (hA : ∀ q, H0.size ≤ q → A q)
    {n : Int32} {N' : Nat} (hn : ¬ n < 0) (hN : n.toNatClampNeg = N') (hbytes : N' * 4 ≤ 536870912) (hcells : cells + 1 ≤ R.cells) (hslots : slots + N' ≤ R.slots) (hdg : decode cc pc = .ok (.anewarray index, 3))
    (kk : ∀ (q : Nat) (H1 : Heap), va_P D vwCl (ws ++ [(q, .inl (cs 3, N', .inr (.inr (.inr (.inr (fun _ => none))))))]) H1 → va_D A (ws ++ [(q, .inl (cs 3, N', .inr (.inr (.inr (.inr (fun _ => none))))))]) → va_S A H0 H1 locs → W p l e R s m args below meth c H1 locs (cells + 1) (slots + N') Q (F0 m (pc + 3) ls (.ref q :: rest))) : W p l e R s m args below meth c H locs cells slots Q (F0 m pc ls (.int n :: rest)) := by
  refine va_newq hx hb hown hclink hover hK hP hD hS hA hn hN hbytes hcells hslots hdg (fun q cA H1 hK1 hP1 hD1 hS1 => ?_)
  obtain ⟨kA, comp, h1, h2, h3, h4⟩ := (hK1.2 5 (cA, .object "PlateCuts$Tape") rfl).2
  obtain ⟨kB, comp2, g1, g2, g3, g4⟩ := (hK.2 3 (cs 3, .object "PlateCuts$Tape") rfl).2
  have e1 : cA = cs 3 := Option.some.inj (h4.symm.trans g4)
  subst e1
  exact kk q H1 hP1 hD1 hS1
/-- what came back from a constructor of the cell last made, beside the rest -/
theorem cn_join {wr w1 : va_W} {q : Nat} {e0 : va_E} {H1 : Heap} (hP : va_P D vwCl (wr ++ [(q, e0)]) H) (hD : va_D A (wr ++ [(q, e0)]))
    (hk : ∀ x : Nat, x < H.size → ¬ va_A [(q, e0)] H.size x → H1[x]? = H[x]?) (hF : ∀ x, va_A [(q, e0)] H.size x → A x) (hP1 : va_P D vwCl w1 H1) (hD1 : va_D (va_A [(q, e0)] H.size) w1) : va_P D vwCl (wr ++ w1) H1 ∧ va_D A (wr ++ w1) := by
  have hne : ∀ (k : Nat) (x : Nat × va_E), wr[k]? = some x → x.1 ≠ q := by
    intro k x hx hq
    have hlt := (List.getElem?_eq_some_iff.mp hx).1
    have := hD.1 k wr.length x (q, e0) (by rw [List.getElem?_append_left hlt]; exact hx) (by simp) hq
    omega
  have hPr : va_P D vwCl wr H := fun k x hx => hP k x (by rw [List.getElem?_append_left (List.getElem?_eq_some_iff.mp hx).1]; exact hx)
  have hDr : va_D A wr := ⟨fun i j x y hi hj hxy => hD.1 i j x y (by rw [List.getElem?_append_left (List.getElem?_eq_some_iff.mp hi).1]; exact hi) (by rw [List.getElem?_append_left (List.getElem?_eq_some_iff.mp hj).1]; exact hj) hxy, fun k x hx => hD.2 k x (by rw [List.getElem?_append_left (List.getElem?_eq_some_iff.mp hx).1]; exact hx)⟩
  have hap : ∀ (k : Nat) (x : Nat × va_E), wr[k]? = some x → ¬ va_A [(q, e0)] H.size x.1 := by
    intro k x hx h
    rcases h with ⟨j, e1, hj⟩ | h
    · have hj0 : j = 0 := by
        have := (List.getElem?_eq_some_iff.mp hj).1
        simp at this
        exact this
      subst hj0
      exact hne k x hx (by cases hj; rfl)
    · have := (hPr k x hx).lt
      omega
  refine ⟨va_P.app (fun k x hx => (hPr k x hx).kept (hk _ (hPr k x hx).lt (hap k x hx))) hP1, va_D.app hDr (hD1.weaken (fun _ x _ h => hF x.1 h)) (fun i j x y hx hy hxy => ?_)⟩
  exact hap i x hx (by rw [hxy]; exact hD1.2 j y hy)
end CN
