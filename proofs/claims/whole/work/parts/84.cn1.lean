/-! ===== the constructors: their words, a contract's form, a call ===== -/
def cnWs : List Cond := [.methodLink RX2 3 objectInit, .instanceMethod objectInit, .code objectInit ⟨#[0xb1]⟩ 1 none, .fieldLink RX2 9 "PlateCuts$Setup" "wide" "I", .fieldLink RX2 15 "PlateCuts$Setup" "high" "I", .arrayClass .int, .fieldLink RX2 18 "PlateCuts$Setup" "facts" "[I", .methodLink RX4 3 objectInit, .arrayClass .long, .fieldLink RX4 9 "PlateCuts$Tape" "items" "[J", .fieldLink RX4 15 "PlateCuts$Tape" "sort" "I", .methodLink RX5 3 objectInit, .arrayClass .byte, .fieldLink RX5 9 "PlateCuts$Text" "bytes" "[B", .methodLink RX1 3 objectInit, .methodLink RX1 9 Lib.Math.max.name, .static Lib.Math.max.name, .initialized "java/lang/Math", .code Lib.Math.max.name Lib.Math.max.code 2 (some .int), .fieldLink RX1 15 "PlateCuts$Rows" "pairs" "[I", .methodLink RX6 3 objectInit, .fieldLink RX6 11 "PlateCuts$Worths" "table" "[I", .fieldLink RX6 15 "PlateCuts$Worths" "setup" "LPlateCuts$Setup;", .methodLink RX3 3 objectInit, .classLink RX3 9 RX2, .instantiable RX2 6, .initialized RX2, .fieldLink RX3 12 "PlateCuts$State" "setup" "LPlateCuts$Setup;", .classLink RX3 18 RX1, .instantiable RX1 2, .initialized RX1, .fieldLink RX3 23 "PlateCuts$State" "seen" "LPlateCuts$Rows;", .fieldLink RX3 27 "PlateCuts$State" "events" "LPlateCuts$Rows;", .fieldLink RX3 30 "PlateCuts$State" "book" "LPlateCuts$Rows;", .methodLink RX0 3 objectInit, .fieldLink RX0 9 "PlateCuts$Cuts" "facts" "[I", .fieldLink RX0 15 "PlateCuts$Cuts" "used" "[I", .fieldLink RX0 18 "PlateCuts$Cuts" "setup" "LPlateCuts$Setup;", .classLink RX0 22 RX6, .instantiable RX6 2, .initialized RX6, .fieldLink RX0 27 "PlateCuts$Cuts" "worths" "LPlateCuts$Worths;", .methodLink RX7 3 objectInit, .classLink RX7 9 RX3, .instantiable RX3 4, .initialized RX3, .fieldLink RX7 12 "PlateCuts" "now" "LPlateCuts$State;", .fieldLink RX7 18 "PlateCuts" "image" "LPlateCuts$State;", .classLink RX7 21 RX0, .instantiable RX0 9, .initialized RX0, .fieldLink RX7 23 "PlateCuts$State" "setup" "LPlateCuts$Setup;", .fieldLink RX7 30 "PlateCuts" "cuts" "LPlateCuts$Cuts;", .classLink RX7 34 RX2, .fieldLink RX7 37 "PlateCuts" "trial" "LPlateCuts$Setup;", .fieldLink RX7 40 "PlateCuts" "trialCuts" "LPlateCuts$Cuts;", .classLink RX7 43 RX5, .instantiable RX5 2, .initialized RX5, .fieldLink RX7 46 "PlateCuts" "text" "LPlateCuts$Text;", .classLink RX7 50 "PlateCuts$Tape", .fieldLink RX7 52 "PlateCuts" "tapes" "[LPlateCuts$Tape;", .classLink RX7 50 RX4, .instantiable RX4 3, .initialized RX4, .methodLink RX8 5 objectInit, .fieldLink RX8 11 "PlateCutsModel" "a" "[I", .fieldLink RX8 15 "PlateCutsModel" "kept" "[I", .fieldLink RX8 18 "PlateCutsModel" "aside" "[I", .fieldLink RX8 21 "PlateCutsModel" "text" "[I", .fieldLink RX8 24 "PlateCutsModel" "starts" "[I", .fieldLink RX8 27 "PlateCutsModel" "bests" "[I", .fieldLink RX8 30 "PlateCutsModel" "nodes" "[I", .fieldLink RX8 33 "PlateCutsModel" "staged" "[I", .fieldLink RX8 36 "PlateCutsModel" "sorts" "[I", .fieldLink RX8 39 "PlateCutsModel" "sizes" "[I", .classLink RX8 42 "[[J", .fieldLink RX8 44 "PlateCutsModel" "rows" "[[J", .fieldLink RX8 47 "PlateCutsModel" "passed" "[J"]
theorem cnW : ∀ w ∈ cnWs, w ∈ TBL := tb_of [84, 71, 72, 85, 89, 115, 101, 226, 239, 227, 229, 210, 219, 211, 121, 122, 123, 51, 124, 125, 162, 164, 163, 78, 79, 80, 49, 134, 116, 117, 50, 136, 138, 140, 156, 173, 174, 170, 157, 158, 53, 171, 70, 73, 74, 48, 240, 241, 151, 152, 52, 135, 243, 203, 245, 246, 205, 206, 54, 247, 220, 248, 220, 222, 55, 715, 718, 719, 720, 722, 724, 726, 727, 729, 730, 731, 716, 732, 733] (by decide +kernel) (by decide +kernel)
abbrev cnwd (y : MethodName) (b : ByteArray) (n : Nat) : List Cond := .code y b n none :: TBL
theorem cn_AOl {u U : State} {a1 a2 : Array Value} (hvm : u.vm.Alike U.vm) (h : (Cond.arrayOver (.array .long)).before a1 u = true) : (Cond.arrayOver (.array .long)).before a2 U = true := Jvm.Stand.arrayOver_alikeB hvm h
def cnNl : List (String × Nat × MethodName) := [(RX3, 11, yX2_init), (RX7, 11, yX3_init), (RX7, 36, yX2_init), (RX7, 45, yX5_init), (RX7, 56, yX4_init)]
def cnNk (e : String × Nat × MethodName) : Cond := .methodLinkNest e.1 e.2.1 e.2.2 "PlateCuts"
def cnO (U : State) : Prop := va_AO "PlateCuts$Tape" U ∧ (Cond.arrayOver (.array .long)).before #[] U = true ∧ ∀ e ∈ cnNl, va_Nw (cnNk e) U
theorem cnO.warm {u U : State} (hW : u.WarmedH U.vm) (h : cnO u) : cnO U := ⟨va_AO.moved hW.alike h.1, cn_AOl hW.alike h.2.1, fun e he => va_Nw.warmM hW (h.2.2 e he)⟩
theorem cnO.call {U : State} {g : JFrame} {mk : MethodId} {a : Array Value} (h : cnO U) : cnO (U.calling g mk a) := ⟨va_AO.moved (u := U) (U := U.calling g mk a) (Vm.Alike.refl U.vm) h.1, cn_AOl (u := U) (U := U.calling g mk a) (Vm.Alike.refl U.vm) h.2.1, fun e he => va_Nw.same rfl rfl (h.2.2 e he)⟩
def cnPre (D : va_G) (cs : Nat → ClassId) (h0 : Nat) (e0 : va_E) (sz : Nat) (U : State) : Prop := U.heap.size = sz ∧ va_P D vwCl [(h0, e0)] U.heap ∧ va_K D vwCl (qtys cs) U ∧ va_D (fun _ => True) [(h0, e0)] ∧ cnO U
def cnPost (D : va_G) (h0 : Nat) (e0 : va_E) (sz : Nat) (Wf : Nat → va_W → Prop) (_ : Unit) (t : State) : Prop := ∃ w, Wf h0 w ∧ va_P D vwCl w t.heap ∧ va_D (va_A [(h0, e0)] sz) w
abbrev cnMet (l : Launch) (D : va_G) (cs : Nat → ClassId) (y : MethodName) (b : ByteArray) (maxL : Nat) (rm : Room) (As : List Value) (e0 : va_E) (Wf : Nat → va_W → Prop) (h0 sz mc ms : Nat) : Prop :=
  Met l y (cnwd y b maxL) rm (va_Pc (.ref h0 :: As) (cnPre D cs h0 e0 sz)) (va_Qv (fun _ : Unit => True) (cnPost D h0 e0 sz Wf) (va_A [(h0, e0)] sz)) mc ms (va_A [(h0, e0)] sz)
section CNC
variable {p : Program} {l : Launch} {e : Env} {R : Room} {s : State} {m : MethodId} {args : Array Value} {below : List Frame} {meth : Method} {c : Code} {H : Heap} {locs : List Loc} {cells slots : Nat} {Q : State → Prop} {cs : Nat → ClassId} {D : va_G} {A : Nat → Prop} {cc : ByteArray} {pc : Nat} {ls : Array Slot} {rest : List Value} {H0 : Heap}
theorem cnPre_blind {As : List Value} {h0 sz : Nat} {e0 : va_E} {H : Heap} (hO : cnO s) (hK : va_K D vwCl (qtys cs) s) (hP : va_P D vwCl [(h0, e0)] H) (hD : va_D A [(h0, e0)]) : PreS s H (va_Pc (.ref h0 :: As) (cnPre D cs h0 e0 H.size)) (.ref h0 :: As) :=
  ⟨fun a U g mk q => by obtain ⟨q0, q1, qP, qK, qD, qO⟩ := q; exact ⟨q0, q1, qP, va_K.moved (u := U) (U := U.calling g mk a) (Vm.Alike.refl U.vm) qK, qD, qO.call⟩, fun U hU hW => ⟨rfl, by rw [hU], by rw [hU]; exact hP, va_K.moved hW.alike hK, hD.weaken (fun _ _ _ _ => trivial), hO.warm hW⟩⟩
theorem cn_tail {mc ms q : Nat} {a : Array Value} {st0 : List Value} {e0 : va_E} {Wf : Nat → va_W → Prop} {wr : va_W} 
    (hr : va_Run p l e R s m args below meth c H locs cells slots mc ms (F0 m pc ls st0) rest (va_Qv (fun _ : Unit => True) (cnPost D q e0 H.size Wf) (va_A [(q, e0)] H.size) a) (va_A [(q, e0)] H.size))
    (hP : va_P D vwCl (wr ++ [(q, e0)]) H) (hD : va_D A (wr ++ [(q, e0)])) (hS : va_S A H0 H locs) (hFc : ∀ x, va_A [(q, e0)] H.size x → A x)
    (kk : ∀ (w : va_W) (H1 : Heap) (locs1 : List Loc), Wf q w → va_P D vwCl (wr ++ w) H1 → va_D A (wr ++ w) → va_S A H0 H1 locs1 → W p l e R s m args below meth c H1 locs1 (cells + mc) (slots + ms) Q (F0 m (pc + 3) ls rest)) : W p l e R s m args below meth c H locs cells slots Q (F0 m pc ls st0) := by
  refine va_callv hr hS (fun q _ h => hFc q h) hFc (fun u t H1 locs ht hvm hw hB hz1 hk1 hS => ?_)
  obtain ⟨w, hWf, hP1, hD1⟩ := hB
  rw [ht] at hP1
  obtain ⟨hP2, hD2⟩ := cn_join hP hD hk1 hFc hP1 hD1
  exact kk w H1 locs hWf hP2 hD2 hS
theorem cn_call {y : MethodName} {b : ByteArray} {maxL mc ms n nL index q : Nat} {rm : Room} {As st0 : List Value} {e0 : va_E} {Wf : Nat → va_W → Prop} {own : String} {wr : va_W} (hx : p.tables.exec = Jvm.exec) (hb : c.code = cc) (hml : c.maxLocals = nL) (hown : s.vm.findClass own = some m.cls) (hts : ∀ w ∈ TBL, w.before args s = true) (hO : cnO s)
    (hM : ∀ h0 sz, cnMet l D cs y b maxL rm As e0 Wf h0 sz mc ms) (h4 : ∀ w ∈ [Cond.initialized y.cls, Cond.methodLink own index y, Cond.instanceMethod y, Cond.code y b maxL none], w ∈ TBL) (hy : y.name = "<init>")
    (hd : y.cls ≠ "java/lang/invoke/MethodHandle" ∧ y.cls ≠ "java/lang/invoke/VarHandle" ∧ (parseMethodDescriptor y.desc).map (fun d => d.parameters.length) = some n) (hn : As.length = n) (hrc : rm.cells = mc) (hrs : rm.slots = ms) (hR : rm.frames + 1 ≤ R.frames ∧ 8 + (maxL + 11) + rm.locals ≤ R.locals)
    (hK : va_K D vwCl (qtys cs) s) (hP : va_P D vwCl (wr ++ [(q, e0)]) H) (hD : va_D A (wr ++ [(q, e0)])) (hS : va_S A H0 H locs) (hA : ∀ q, H0.size ≤ q → A q) (hls : ls.size = nL) (hst : st0 = As.reverse ++ .ref q :: rest) (hcat : (rest.map fun v => v.category).sum ≤ 8) (hdg : decode cc pc = .ok (.invokespecial index, 3)) (hf : cells + mc ≤ R.cells ∧ slots + ms ≤ R.slots)
    (kk : ∀ (w : va_W) (H1 : Heap) (locs1 : List Loc), Wf q w → va_P D vwCl (wr ++ w) H1 → va_D A (wr ++ w) → va_S A H0 H1 locs1 → W p l e R s m args below meth c H1 locs1 (cells + mc) (slots + ms) Q (F0 m (pc + 3) ls rest)) : W p l e R s m args below meth c H locs cells slots Q (F0 m pc ls st0) := by
  have hPc : va_P D vwCl [(q, e0)] H := hP.sub [wr.length] (by simp)
  have hDc : va_D A [(q, e0)] := hD.sub [wr.length] rfl (by simp)
  have hFc := va_free (wc := [(q, e0)]) hD hS hA [wr.length] (by simp)
  exact cn_tail (va_runI (Ts := TBL) (own := own) (As := As) (rest := rest) ⟨hx, hb, hml, hown, hts⟩ (hM q H.size) (cwI n hts (tb_good (fun w hw => (List.mem_cons.mp hw).elim (fun h => h ▸ h4 _ (by simp)) id)) rfl hrc hrs (hts _ (h4 _ (by simp))) (hts _ (h4 _ (by simp))) (hts _ (h4 _ (by simp))) hy hd hR) (cnPre_blind (sz := H.size) hO hK hPc hDc) rfl hn hls hst (lv_room hcat) hdg hf) hP hD hS hFc kk
theorem cn_callN {y : MethodName} {b : ByteArray} {maxL mc ms n nL index q : Nat} {rm : Room} {As st0 : List Value} {e0 : va_E} {Wf : Nat → va_W → Prop} {own : String} {wr : va_W} (hx : p.tables.exec = Jvm.exec) (hb : c.code = cc) (hml : c.maxLocals = nL) (hown : s.vm.findClass own = some m.cls) (hts : ∀ w ∈ TBL, w.before args s = true) (hO : cnO s)
    (hM : ∀ h0 sz, cnMet l D cs y b maxL rm As e0 Wf h0 sz mc ms) (hNk : (own, index, y) ∈ cnNl) (h4 : ∀ w ∈ [Cond.initialized y.cls, Cond.instanceMethod y, Cond.code y b maxL none], w ∈ TBL) (hy : y.name = "<init>")
    (hd : y.cls ≠ "java/lang/invoke/MethodHandle" ∧ y.cls ≠ "java/lang/invoke/VarHandle" ∧ (parseMethodDescriptor y.desc).map (fun d => d.parameters.length) = some n) (hn : As.length = n) (hrc : rm.cells = mc) (hrs : rm.slots = ms) (hR : rm.frames + 1 ≤ R.frames ∧ 8 + (maxL + 11) + rm.locals ≤ R.locals)
    (hK : va_K D vwCl (qtys cs) s) (hP : va_P D vwCl (wr ++ [(q, e0)]) H) (hD : va_D A (wr ++ [(q, e0)])) (hS : va_S A H0 H locs) (hA : ∀ q, H0.size ≤ q → A q) (hls : ls.size = nL) (hst : st0 = As.reverse ++ .ref q :: rest) (hcat : (rest.map fun v => v.category).sum ≤ 8) (hdg : decode cc pc = .ok (.invokespecial index, 3)) (hf : cells + mc ≤ R.cells ∧ slots + ms ≤ R.slots)
    (kk : ∀ (w : va_W) (H1 : Heap) (locs1 : List Loc), Wf q w → va_P D vwCl (wr ++ w) H1 → va_D A (wr ++ w) → va_S A H0 H1 locs1 → W p l e R s m args below meth c H1 locs1 (cells + mc) (slots + ms) Q (F0 m (pc + 3) ls rest)) : W p l e R s m args below meth c H locs cells slots Q (F0 m pc ls st0) := by
  have hPc : va_P D vwCl [(q, e0)] H := hP.sub [wr.length] (by simp)
  have hDc : va_D A [(q, e0)] := hD.sub [wr.length] rfl (by simp)
  have hFc := va_free (wc := [(q, e0)]) hD hS hA [wr.length] (by simp)
  exact cn_tail (va_runIN (Ts := TBL) (own := own) (host := "PlateCuts") (As := As) (rest := rest) ⟨hx, hb, hml, hown, hts⟩ (hM q H.size) ⟨va_cnB n hts (tb_good (fun w hw => (List.mem_cons.mp hw).elim (fun h => h ▸ h4 _ (by simp)) id)) rfl hrc hrs (hO.2.2 _ hNk) (hts _ (h4 _ (by simp))) hd hR, hy, hts _ (h4 _ (by simp))⟩ (cnPre_blind (sz := H.size) hO hK hPc hDc) rfl hn hls hst (lv_room hcat) hdg hf) hP hD hS hFc kk
end CNC
/-! ===== the constructors: the long[6][60] of the reference ===== -/
def cnGF (q : Nat) (j : Nat) : Option Nat := if j < 6 then some (q + (j + 1)) else none
abbrev cnG (cs : Nat → ClassId) (q : Nat) : va_W := [(q, .inl (cs 4, 6, .inr (.inr (.inr (.inr (cnGF q)))))), (q + 1, cnL cs 60), (q + 2, cnL cs 60), (q + 3, cnL cs 60), (q + 4, cnL cs 60), (q + 5, cnL cs 60), (q + 6, cnL cs 60)]
theorem cnG_k {cs : Nat → ClassId} {q k : Nat} {x : Nat × va_E} (h : (cnG cs q)[k]? = some x) : (k = 0 ∧ x = (q, .inl (cs 4, 6, .inr (.inr (.inr (.inr (cnGF q))))))) ∨ ∃ j, j < 6 ∧ k = j + 1 ∧ x = (q + 1 + j, cnL cs 60) := by
  match k, h with
  | 0, h => cases h; exact Or.inl ⟨rfl, rfl⟩
  | 1, h => cases h; exact Or.inr ⟨0, by decide, rfl, rfl⟩
  | 2, h => cases h; exact Or.inr ⟨1, by decide, rfl, rfl⟩
  | 3, h => cases h; exact Or.inr ⟨2, by decide, rfl, rfl⟩
  | 4, h => cases h; exact Or.inr ⟨3, by decide, rfl, rfl⟩
  | 5, h => cases h; exact Or.inr ⟨4, by decide, rfl, rfl⟩
  | 6, h => cases h; exact Or.inr ⟨5, by decide, rfl, rfl⟩
  | n + 7, h => cases h
section CNG
variable {p : Program} {l : Launch} {e : Env} {R : Room} {s : State} {m : MethodId} {args : Array Value} {below : List Frame} {meth : Method} {c : Code} {H : Heap} {locs : List Loc} {cells slots : Nat} {Q : State → Prop} {cs : Nat → ClassId} {D : va_G} {A : Nat → Prop} {cc : ByteArray} {pc : Nat} {ls : Array Slot} {rest : List Value} {ws : va_W} {H0 : Heap}
theorem cn_outerE (c : ClassId) (N h0 : Nat) : ∀ i, Jvm.Free.Multi.outerC c N h0 i = { cls := c, slots := (Jvm.Free.Multi.outerC c N h0 i).slots, vm := .none }
  | 0 => rfl
  | i + 1 => by
    have ih := cn_outerE c N h0 i
    show (Jvm.Free.Multi.outerC c N h0 i).setSlot i (.ref (h0 + 1 + i)) = { cls := c, slots := ((Jvm.Free.Multi.outerC c N h0 i).setSlot i (.ref (h0 + 1 + i))).slots, vm := .none }
    generalize Jvm.Free.Multi.outerC c N h0 i = X at ih ⊢
    rw [ih]
    rfl
theorem cn_outer (cA : ClassId) (q : Nat) : Jvm.Free.Multi.outerC cA 6 q 6 = vp_cell cA (6, .inr (.inr (.inr (.inr (cnGF q))))) := by
  obtain ⟨o1, o2, o3⟩ := Jvm.Free.Multi.outerC_facts cA 6 q 6
  have os := fun (j : Nat) (hj : j < 6) => Jvm.Free.Multi.outerC_slot cA 6 q 6 j hj
  have hs : (Jvm.Free.Multi.outerC cA 6 q 6).slots = (arrV cA 6 (fun j => va_rf (cnGF q j))).slots := by
    apply Array.ext_getElem?
    intro j
    by_cases hj : j < 6
    · rw [os j hj, arrV_read _ _ hj]
      simp only [cnGF, hj, if_true, va_rf]
      rw [show q + 1 + j = q + (j + 1) by omega]
    · rw [Array.getElem?_eq_none (by rw [o3]; omega), Array.getElem?_eq_none (by rw [arrV_size]; omega)]
  rw [cn_outerE cA 6 q 6, hs]
  rfl
theorem cn_grid (hx : p.tables.exec = Jvm.exec) (hb : c.code = cc) {own : String} {index : Nat} (hown : s.vm.findClass own = some m.cls) (hclink : (Cond.classLink own index "[[J").before args s = true) (hover : (Cond.arrayOver (.array .long)).before #[] s = true) (harr : (Cond.arrayClass .long).before args s = true) (hK : va_K D vwCl (qtys cs) s) (hP : va_P D vwCl ws H) (hD : va_D A ws) (hS : va_S A H0 H locs) (hA : ∀ q, H0.size ≤ q → A q)
    (hcells : cells + 7 ≤ R.cells) (hslots : slots + 366 ≤ R.slots) (hdg : decode cc pc = .ok (.multianewarray index 2, 4))
    (kk : ∀ (q : Nat) (H1 : Heap), va_P D vwCl (ws ++ cnG cs q) H1 → va_D A (ws ++ cnG cs q) → va_S A H0 H1 locs → W p l e R s m args below meth c H1 locs (cells + 7) (slots + 366) Q (F0 m (pc + 4) ls (.ref q :: rest))) : W p l e R s m args below meth c H locs cells slots Q (F0 m pc ls (.int 60 :: .int 6 :: rest)) := by
  intro T hT X
  have n6 : (6 : Int32).toNatClampNeg = 6 := rfl
  have n60 : (60 : Int32).toNatClampNeg = 60 := rfl
  have eS : "[" ++ (FieldType.array .long).toString = "[[J" := by first | rfl | decide | decide +kernel
  have eT : (FieldType.array .long).toString = "[" ++ FieldType.long.toString := by first | rfl | decide | decide +kernel
  obtain ⟨vm₁, cA, comp, hW, hfA, hfC, hO, hI, X1, st⟩ := X.multianewarray2F (own := own) (index := index) (ty := .long) (g := F0 m pc ls (.int 60 :: .int 6 :: rest)) (n := 6) (k := 60) (rest := rest) hx hown (by rw [eS]; exact hclink) (cn_AOl (Vm.Alike.refl s.vm) hover) harr rfl (by rw [hb]; exact hdg) rfl (by decide) (by decide) (by decide) (by decide) (by decide) rfl rfl (by rw [n6]; omega) (by rw [n6, n60]; omega)
  rw [n6, n60] at X1 st
  have e4 : cA = cs 4 := Option.some.inj (hfA.symm.trans (hK.2 4 (cs 4, .array .long) rfl).2)
  have e2 : comp = cs 2 := cn_k hK (k := 2) rfl (fun C h => by cases h) (by rw [← eT]; exact hfC)
  subst e4; subst e2
  obtain ⟨f1, f2, f3, f4⟩ := Jvm.Free.Multi.fill_facts (T.setVm vm₁) (cs 4) (cs 2) 6 60 (defaultValue .long) 6
  have fo := fun (a : Addr) (ha : a < T.heap.size) => Jvm.Free.Multi.fill_old (T.setVm vm₁) (cs 4) (cs 2) 6 60 (defaultValue .long) (a := a) ha 6
  have fi := fun (j : Nat) (hj : j < 6) => Jvm.Free.Multi.fill_inner (T.setVm vm₁) (cs 4) (cs 2) 6 60 (defaultValue .long) 6 j hj
  generalize Jvm.Free.Multi.fill (T.setVm vm₁) (cs 4) (cs 2) 6 60 (defaultValue .long) 6 = T' at X1 st f1 f2 f3 f4 fo fi
  have f1 : T'.heap.size = T.heap.size + 1 + 6 := f1
  have f2 : T'.heap[T.heap.size]? = some (Jvm.Free.Multi.outerC (cs 4) 6 T.heap.size 6) := f2
  have fo : ∀ a : Nat, a < T.heap.size → T'.heap[a]? = T.heap[a]? := fo
  have fi : ∀ j, j < 6 → T'.heap[T.heap.size + 1 + j]? = some (Jvm.Free.Multi.innerC (cs 2) 60 (.long 0)) := fi
  subst hT
  have hP1 : va_P D vwCl (ws ++ cnG cs T.heap.size) T'.heap := by
    refine va_P.app (fun k x hk => (hP k x hk).kept (fo _ (hP k x hk).lt)) (fun k x hk => ?_)
    rcases cnG_k hk with ⟨-, rfl⟩ | ⟨j, hj, -, rfl⟩
    · show T'.heap[T.heap.size]? = some (vp_cell _ _)
      rw [f2, cn_outer]
    · show T'.heap[T.heap.size + 1 + j]? = some (arrV (cs 2) 60 (fun _ => .long 0))
      rw [fi j hj, ← arrV_new]
      rfl
  have hD1 : va_D A (ws ++ cnG cs T.heap.size) := by
    refine va_D.app hD ⟨fun i j x y hi hj hxy => ?_, fun k x hk => ?_⟩ (fun i j x y hi hj hxy => ?_)
    · rcases cnG_k hi with ⟨i0, rfl⟩ | ⟨i1, hi1, i0, rfl⟩ <;> rcases cnG_k hj with ⟨j0, rfl⟩ | ⟨j1, hj1, j0, rfl⟩ <;> dsimp only at hxy <;> omega
    · have := hS.1
      rcases cnG_k hk with ⟨i0, rfl⟩ | ⟨i1, hi1, i0, rfl⟩
      · exact hA _ this
      · exact hA _ (Nat.le_trans this (by show T.heap.size ≤ T.heap.size + 1 + i1; omega))
    · have := (hP i x hi).lt
      rcases cnG_k hj with ⟨i0, rfl⟩ | ⟨i1, hi1, i0, rfl⟩ <;> dsimp only at hxy <;> omega
  have hS1 : va_S A H0 T'.heap locs := ⟨Nat.le_trans hS.1 (by omega), fun x h1 h2 => (fo x (Nat.lt_of_lt_of_le h1 hS.1)).trans (hS.2.1 x h1 h2), hS.2.2⟩
  obtain ⟨t, a1, b1⟩ := kk T.heap.size T'.heap hP1 hD1 hS1 T' rfl (X1.more (by omega) (by omega))
  exact ⟨t, st t a1, b1⟩
end CNG
/-! ===== what holds at the law's entry: classes, array classes, statics, strings ===== -/
theorem cn_K {s : State} {args : Array Value} (htsL : ∀ w ∈ lw_tbl, w.before args s = true) : (∃ (D : va_G) (cs : Nat → ClassId), va_K D vwCl (qtys cs) s) ∧ cnO s := by
  have hts : ∀ w ∈ TBL, w.before args s = true := fun w h => htsL w (tb_tbl h)
  have hi : ∀ w ∈ [Cond.instantiable RX0 9, .instantiable RX1 2, .instantiable RX2 6, .instantiable RX3 4, .instantiable RX4 3, .instantiable RX5 2, .instantiable RX6 2, .instantiable RX7 9, .instantiable RX8 16], w ∈ TBL := tb_of [152, 117, 80, 74, 222, 206, 158, 66, 711] (by decide +kernel) (by decide +kernel)
  obtain ⟨c0, i0, k0⟩ := u_known (C := RX0) (T := TX0) (N := 9) (n := 9) hts qcw_0 (hts _ (hi _ (by simp)))
  obtain ⟨c1, i1, k1⟩ := u_known (C := RX1) (T := TX1) (N := 2) (n := 2) hts qcw_1 (hts _ (hi _ (by simp)))
  obtain ⟨c2, i2, k2⟩ := u_known (C := RX2) (T := TX2) (N := 6) (n := 6) hts qcw_2 (hts _ (hi _ (by simp)))
  obtain ⟨c3, i3, k3⟩ := u_known (C := RX3) (T := TX3) (N := 4) (n := 4) hts qcw_3 (hts _ (hi _ (by simp)))
  obtain ⟨c4, i4, k4⟩ := u_known (C := RX4) (T := TX4) (N := 3) (n := 3) hts qcw_4 (hts _ (hi _ (by simp)))
  obtain ⟨c5, i5, k5⟩ := u_known (C := RX5) (T := TX5) (N := 2) (n := 2) hts qcw_5 (hts _ (hi _ (by simp)))
  obtain ⟨c6, i6, k6⟩ := u_known (C := RX6) (T := TX6) (N := 2) (n := 2) hts qcw_6 (hts _ (hi _ (by simp)))
  obtain ⟨c7, i7, k7⟩ := u_known (C := RX7) (T := TX7) (N := 9) (n := 9) hts qcw_7 (hts _ (hi _ (by simp)))
  obtain ⟨c8, i8, k8⟩ := u_known (C := RX8) (T := TX8) (N := 16) (n := 16) hts qcw_8 (hts _ (hi _ (by simp)))
  have hov : (Cond.arrayOver (.object "PlateCuts$Tape")).before args s = true := htsL _ (List.mem_of_getElem? (i := 221) (by decide +kernel))
  have hol : (Cond.arrayOver (.array .long)).before args s = true := htsL _ (List.mem_of_getElem? (i := 717) (by decide +kernel))
  obtain ⟨a0, b0, d0, e0, f0, g0⟩ := Cond.arrayClass_spec (htsL (.arrayClass .int) (List.mem_of_getElem? (i := 115) (by decide +kernel)))
  obtain ⟨a1, b1, d1, e1, f1, g1⟩ := Cond.arrayClass_spec (htsL (.arrayClass .byte) (List.mem_of_getElem? (i := 219) (by decide +kernel)))
  obtain ⟨a2, b2, d2, e2, f2, g2⟩ := Cond.arrayClass_spec (htsL (.arrayClass .long) (List.mem_of_getElem? (i := 239) (by decide +kernel)))
  obtain ⟨d3, a3, b3, e3, j3, f3, g3, h3⟩ := Cond.arrayOver_spec hov
  obtain ⟨d4, a4, b4, e4, j4, f4, g4, h4⟩ := arrayOverA_spec hol
  refine ⟨⟨(fun k => qnth [c0, c1, c2, c3, c4, c5, c6, c7, c8] k c0, fun k => qnth [i0, i1, i2, i3, i4, i5, i6, i7, i8] k i0), fun k => qnth [a0, a1, a2, a3, a4] k a0, fun k q hq => ?_, fun k q hq => ?_⟩, va_AO.of hov, ?_, ?_⟩
  · match k, hq with
    | 0, hq => cases hq; exact k0
    | 1, hq => cases hq; exact k1
    | 2, hq => cases hq; exact k2
    | 3, hq => cases hq; exact k3
    | 4, hq => cases hq; exact k4
    | 5, hq => cases hq; exact k5
    | 6, hq => cases hq; exact k6
    | 7, hq => cases hq; exact k7
    | 8, hq => cases hq; exact k8
    | n + 9, hq => cases hq
  · match k, hq with
    | 0, hq => cases hq; exact ⟨fun n z => ⟨(fun k h => by cases h), b0, f0, d0, g0⟩, e0⟩
    | 1, hq => cases hq; exact ⟨fun n z => ⟨(fun k h => by cases h), b1, f1, d1, g1⟩, e1⟩
    | 2, hq => cases hq; exact ⟨fun n z => ⟨(fun k h => by cases h), b2, f2, d2, g2⟩, e2⟩
    | 3, hq => cases hq; exact ⟨fun n z => ⟨(fun k h => by cases h), b3, f3, d3, g3⟩, b3, d3, f3, g3, e3, h3⟩
    | 4, hq => cases hq; exact ⟨fun n z => ⟨(fun k h => by cases h), b4, f4, d4, g4⟩, h4⟩
    | n + 5, hq => cases hq
  · exact cn_AOl (Vm.Alike.refl s.vm) hol
  · intro e he
    have hm : cnNk e ∈ lw_tbl := by
      have h1 : cnNl.map cnNk = [81, 75, 204, 207, 223].filterMap (fun i => lw_tbl[i]?) := by decide +kernel
      have h2 := List.mem_map_of_mem (f := cnNk) he
      rw [h1] at h2
      obtain ⟨i, -, hi⟩ := List.mem_filterMap.mp h2
      exact List.mem_of_getElem? hi
    exact va_Nw.of rfl (htsL _ hm)
set_option maxHeartbeats 4000000 in
set_option maxRecDepth 100000 in
theorem cn_SF {s : State} {b L : Nat} {xs : Nat → Int32} {cs : Nat → ClassId} {D : va_G} (htsL : ∀ w ∈ lw_tbl, w.before #[Value.ref b] s = true) (hX : va_X b L xs s s.heap) (hbl : b < s.heap.size) (hL : L ≤ 3072) (hgv : (Jvm.Cond.and given_1 narrow_1).before #[Value.ref b] s = true) (hK : va_K D vwCl (qtys cs) s) :
    ∃ αr : Nat → Nat, αr 1001 = b ∧ ∀ α : Nat → Nat, (∀ n, 65 ≤ n → α n = αr n) → qSF α cs D s.heap.size L xs s := by
  have hs := flat_of_before _ hgv
  have hA : ∀ a : Nat, a < s.heap.size → ¬ (fun q => s.heap.size ≤ q) a := fun a h => Nat.not_le.mpr h
  have hel : ∀ j : Nat, j < 8 → (Term.elem (.static RX6 "FIRST_SPAN" "[I") (.int (Int32.ofNat j))).eval #[Value.ref b] s none [] s = some (.int (Int32.ofInt (qspan j))) := by
    intro j hj
    rcases (show j = 0 ∨ j = 1 ∨ j = 2 ∨ j = 3 ∨ j = 4 ∨ j = 5 ∨ j = 6 ∨ j = 7 by omega) with rfl | rfl | rfl | rfl | rfl | rfl | rfl | rfl <;> exact va_eqt (hs _ (by decide +kernel))
  obtain ⟨fsp, e1, h1⟩ := va_Tof (tm := .static RX6 "FIRST_SPAN" "[I") (ty := .int) (N := 8) (f := fun j => .int (Int32.ofInt (qspan j))) (A := fun q => s.heap.size ≤ q) (by decide) (hs _ (by decide +kernel)) (va_eqt (hs _ (by decide +kernel))) hel hA
  have hz1 : va_Z RX6 "FIRST_SPAN" "[I" (.ref fsp) (fun q => s.heap.size ≤ q) s s.heap := va_Zof (htsL _ (List.mem_of_getElem? (i := 353) (by decide +kernel))) (htsL _ (List.mem_of_getElem? (i := 53) (by decide +kernel))) e1 hA
  have hz2 : va_Z RJ0 "COMPACT_STRINGS" "Z" (.int 1) (fun q => s.heap.size ≤ q) s s.heap := va_Zof (htsL _ (List.mem_of_getElem? (i := 888) (by decide +kernel))) (htsL _ (List.mem_of_getElem? (i := 59) (by decide +kernel))) (va_eqi (hs _ (by decide +kernel))) hA
  have h3 : ∀ i : Nat, i < 3 → i = 0 ∨ i = 1 ∨ i = 2 := fun i hi => by omega
  obtain ⟨adK, adV, ⟨hsv, -⟩, hse⟩ := vk_Sof (args := #[Value.ref b]) (s := s) (N := 3) (tm := fun i => .string RX8 (qnth [92, 98, 106] i 0)) (len := [5, 2, 1]) (byt := [[115, 107, 112, 116, 100], [112, 116], [59]]) (A := fun q => s.heap.size ≤ q)
    (fun i hi => by rcases h3 i hi with rfl | rfl | rfl <;> decide)
    (fun i hi => by rcases h3 i hi with rfl | rfl | rfl <;> exact hs _ (by decide +kernel))
    (fun i hi => by rcases h3 i hi with rfl | rfl | rfl <;> exact hs _ (by decide +kernel))
    (fun i hi => by rcases h3 i hi with rfl | rfl | rfl <;> exact hs _ (by decide +kernel))
    (fun i hi => by rcases h3 i hi with rfl | rfl | rfl <;> exact hs _ (by decide +kernel))
    (fun i hi j hj => by
      rcases h3 i hi with rfl | rfl | rfl
      · rcases (show j = 0 ∨ j = 1 ∨ j = 2 ∨ j = 3 ∨ j = 4 by have : j < 5 := hj; omega) with rfl | rfl | rfl | rfl | rfl <;> exact hs _ (by decide +kernel)
      · rcases (show j = 0 ∨ j = 1 by have : j < 2 := hj; omega) with rfl | rfl <;> exact hs _ (by decide +kernel)
      · obtain rfl : j = 0 := by have : j < 1 := hj; omega
        exact hs _ (by decide +kernel))
    (fun i j hi hj hij => by
      rcases h3 i hi with rfl | rfl | rfl <;> rcases h3 j hj with rfl | rfl | rfl
      · exact absurd rfl hij
      · exact Or.inl (hs _ (by decide +kernel))
      · exact Or.inl (hs _ (by decide +kernel))
      · exact Or.inr (hs _ (by decide +kernel))
      · exact absurd rfl hij
      · exact Or.inl (hs _ (by decide +kernel))
      · exact Or.inr (hs _ (by decide +kernel))
      · exact Or.inr (hs _ (by decide +kernel))
      · exact absurd rfl hij) hA
  have hbt : ∀ k j : Nat, k < 3 → j < (qstr k).length → (Value.int (([[115, 107, 112, 116, 100], [112, 116], [59]] : List (List Int32)).getD k [] |>.getD j 0)) = .int (Int32.ofInt (qsb k j)) := by
    intro k j hk hj
    rcases h3 k hk with rfl | rfl | rfl
    · rcases (show j = 0 ∨ j = 1 ∨ j = 2 ∨ j = 3 ∨ j = 4 by have : j < 5 := hj; omega) with rfl | rfl | rfl | rfl | rfl <;> rfl
    · rcases (show j = 0 ∨ j = 1 by have : j < 2 := hj; omega) with rfl | rfl <;> rfl
    · obtain rfl : j = 0 := by have : j < 1 := hj; omega
      rfl
  refine ⟨fun n => if n = 1000 then fsp else if n = 1001 then b else if n < 1005 then adK (n - 1002) else adV (n - 1005), rfl, fun α hα => ?_⟩
  have a0 : α 1000 = fsp := hα _ (by decide)
  have a1 : α 1001 = b := hα _ (by decide)
  have a2 : ∀ k, k < 3 → α (1002 + k) = adK k := fun k hk => by rcases h3 k hk with rfl | rfl | rfl <;> exact hα _ (by decide)
  have a3 : ∀ k, k < 3 → α (1005 + k) = adV k := fun k hk => by rcases h3 k hk with rfl | rfl | rfl <;> exact hα _ (by decide)
  refine ⟨hK, Nat.le_refl _, by rw [a0]; exact hz1, by rw [a0]; exact h1, by rw [a1]; exact ⟨hX, hbl, by omega⟩, hz2, fun k hk => ?_, ⟨?_, ?_, ?_⟩, fun e he => ?_⟩
  · rw [a2 k hk, a3 k hk]
    obtain ⟨g1, g2, g3, cell, q1, q2, q3, q4, q5, q6, q7⟩ := hsv k hk
    have hlen : ([5, 2, 1] : List Nat).getD k 0 = (qstr k).length := by rcases h3 k hk with rfl | rfl | rfl <;> rfl
    rw [hlen] at q4 q5 q6
    exact ⟨g1, g2, g3, cell, q1, q2, q3, q4, q5, fun j hj => (q6 j hj).trans (congrArg some (hbt k j hk hj)), q7⟩
  · exact vk_R.of (htsL _ (List.mem_of_getElem? (i := 870) (by decide +kernel))) ((hse 0 (by decide)).trans (by rw [← a2 0 (by decide)]))
  · exact vk_R.of (htsL _ (List.mem_of_getElem? (i := 957) (by decide +kernel))) ((hse 1 (by decide)).trans (by rw [← a2 1 (by decide)]))
  · exact vk_R.of (htsL _ (List.mem_of_getElem? (i := 962) (by decide +kernel))) ((hse 2 (by decide)).trans (by rw [← a2 2 (by decide)]))
  · have h2 := List.mem_map_of_mem (f := qNk) he
    rw [qNl_k] at h2
    obtain ⟨i, -, hi⟩ := List.mem_filterMap.mp h2
    exact va_Nw.of rfl (htsL _ (List.mem_of_getElem? hi))
