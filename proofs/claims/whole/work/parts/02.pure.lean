/-! ===== the pure machine: values (an int by any of its Ints, a long, a cell by its name), cells, heaps; a block of code as a predicate transformer ===== -/
abbrev qV : Type := Int ⊕ Int64 ⊕ Option Nat
abbrev qA : Type := (Nat → Int) ⊕ (Nat → Int64) ⊕ (Nat → Option Nat)
abbrev qC : Type := (Nat × List qV) ⊕ (Nat × Nat × qA)
abbrev qH : Type := Nat → qC
abbrev qL : Type := List (Option qV)
abbrev qN : Type := Instr × Nat × Nat × List Nat
abbrev qR : Type := Option qV → qH → Prop
abbrev qin (z : Int) : Prop := -2147483648 ≤ z ∧ z ≤ 2147483647
def qS (h : qH) (k : Nat) (c : qC) : qH := fun j => if j = k then c else h j
def qU {α : Type} (f : Nat → α) (k : Nat) (v : α) : Nat → α := fun j => if j = k then v else f j
/-- names below are cells of the world, that may be written -/
abbrev qNW : Nat := 65
def qset (ls : qL) (k fl : Nat) (v : qV) : qL := match fl with
  | 0 => ls.set k (some v)
  | _ => (ls.set (k - 1) none).set k (some v)
def qset2 (ls : qL) (k fl : Nat) (v : qV) : qL := match fl with
  | 0 => (ls.set (k + 1) none).set k (some v)
  | _ => (match ls[k - 1]? with
    | some (some (.inl _)) => (ls.set (k + 1) none).set k (some v)
    | _ => ((ls.set (k - 1) none).set (k + 1) none).set k (some v))
def qcat : qV → Nat
  | .inr (.inl _) => 2
  | _ => 1
def qcs : List qV → Nat
  | [] => 0
  | v :: r => qcat v + qcs r
def qil (ls : qL) (k : Nat) (F : Int → Prop) : Prop := match ls[k]? with
  | some (some (.inl z)) => F z
  | _ => False
def qll (ls : qL) (k : Nat) (F : Int64 → Prop) : Prop := match ls[k]? with
  | some (some (.inr (.inl z))) => F z
  | _ => False
def qal (ls : qL) (k : Nat) (F : Nat → Prop) : Prop := match ls[k]? with
  | some (some (.inr (.inr (some z)))) => F z
  | _ => False
def q1i (st : List qV) (F : Int → List qV → Prop) : Prop := match st with
  | .inl x :: r => F x r
  | _ => False
def q2i (st : List qV) (F : Int → Int → List qV → Prop) : Prop := match st with
  | .inl y :: .inl x :: r => F x y r
  | _ => False
def q1l (st : List qV) (F : Int64 → List qV → Prop) : Prop := match st with
  | .inr (.inl x) :: r => F x r
  | _ => False
def q2l (st : List qV) (F : Int64 → Int64 → List qV → Prop) : Prop := match st with
  | .inr (.inl y) :: .inr (.inl x) :: r => F x y r
  | _ => False
def qli (st : List qV) (F : Int64 → Int → List qV → Prop) : Prop := match st with
  | .inl y :: .inr (.inl x) :: r => F x y r
  | _ => False
def q1r (st : List qV) (F : Nat → List qV → Prop) : Prop := match st with
  | .inr (.inr (some n)) :: r => F n r
  | _ => False
def qir (st : List qV) (F : Int → Nat → List qV → Prop) : Prop := match st with
  | .inl i :: .inr (.inr (some n)) :: r => F i n r
  | _ => False
def qiir (st : List qV) (F : Int → Int → Nat → List qV → Prop) : Prop := match st with
  | .inl v :: .inl i :: .inr (.inr (some n)) :: r => F v i n r
  | _ => False
def qlir (st : List qV) (F : Int64 → Int → Nat → List qV → Prop) : Prop := match st with
  | .inr (.inl v) :: .inl i :: .inr (.inr (some n)) :: r => F v i n r
  | _ => False
def qvr (st : List qV) (F : qV → Nat → List qV → Prop) : Prop := match st with
  | v :: .inr (.inr (some n)) :: r => F v n r
  | _ => False
def q1v (st : List qV) (F : qV → List qV → Prop) : Prop := match st with
  | v :: r => F v r
  | _ => False
def q2v (st : List qV) (F : qV → qV → List qV → Prop) : Prop := match st with
  | v :: w :: r => F v w r
  | _ => False
def qso {α : Type} (o : Option α) (F : α → Prop) : Prop := match o with
  | some v => F v
  | none => False
/-- a field's cell -/
def qob (c : qC) (ci : Nat) (F : List qV → Prop) : Prop := match c with
  | .inl (cj, fs) => cj = ci ∧ F fs
  | _ => False
def qai (c : qC) (ty : Nat) (F : Nat → (Nat → Int) → Prop) : Prop := match c with
  | .inr (t, n, .inl f) => t = ty ∧ F n f
  | _ => False
def qalg (c : qC) (F : Nat → (Nat → Int64) → Prop) : Prop := match c with
  | .inr (t, n, .inr (.inl f)) => t = 2 ∧ F n f
  | _ => False
def qar (c : qC) (F : Nat → (Nat → Option Nat) → Prop) : Prop := match c with
  | .inr (t, n, .inr (.inr f)) => (t = 3 ∨ t = 4) ∧ F n f
  | _ => False
def qaln (c : qC) (F : Nat → Prop) : Prop := match c with
  | .inr (t, n, _) => t < 5 ∧ F n
  | _ => False
def qpop : Nat → List qV → List qV → Option (List qV × List qV)
  | 0, st, acc => some (acc, st)
  | _ + 1, [], _ => none
  | n + 1, v :: st, acc => qpop n st (v :: acc)
def qcmp (c : ClassFile.Cond) (x y : Int) : Prop := match c with
  | .eq => x = y
  | .ne => ¬ x = y
  | .lt => x < y
  | .ge => y ≤ x
  | .gt => y < x
  | .le => x ≤ y
/-- a table of labels by numbers from lo on -/
def qsw (x : Int) (P : Nat → Prop) (dl : Nat) : Int → List Nat → Prop
  | _, [] => P dl
  | lo, k :: r => (x = lo → P k) ∧ (¬ x = lo → qsw x P dl (lo + 1) r)
def qlk (x : Int) (P : Nat → Prop) (dl : Nat) : List Int → List Nat → Prop
  | m :: ms, k :: r => (x = m → P k) ∧ (¬ x = m → qlk x P dl ms r)
  | _, _ => P dl
def qcpy {α : Type} (f g : Nat → α) (sp dp n : Nat) : Nat → α := fun k => if dp ≤ k ∧ k < dp + n then f (sp + (k - dp)) else g k
/-- a field of kind 0 int, 1 boolean, 2 long may hold it -/
def qfit (kd : Nat) (v : qV) : Prop := match kd, v with
  | 0, .inl _ => True
  | 1, .inl z => z = 0 ∨ z = 1
  | 2, .inr (.inl _) => True
  | 3, .inl z => -128 ≤ z ∧ z ≤ 127
  | _, _ => False
def qand (x y : Int) : Int := (Int32.ofInt x &&& Int32.ofInt y).toInt
def qor (x y : Int) : Int := (Int32.ofInt x ||| Int32.ofInt y).toInt
def qshl (x y : Int) : Int := (Int32.ofInt x <<< (Int32.ofInt y &&& 31)).toInt
def qshr (x y : Int) : Int := (Int32.ofInt x >>> (Int32.ofInt y &&& 31)).toInt
def qushr (x y : Int) : Int := ((Int32.ofInt x).toUInt32 >>> ((Int32.ofInt y).toUInt32 &&& Int32.toUInt32 31)).toInt32.toInt
def qlshl (x : Int64) (y : Int) : Int64 := x <<< ((Int32.ofInt y).toInt64 &&& 63)
def qlushr (x : Int64) (y : Int) : Int64 := (x.toUInt64 >>> ((Int32.ofInt y).toInt64.toUInt64 &&& Int64.toUInt64 63)).toInt64
def qi2b (x : Int) : Int := (Int32.ofInt x).toInt8.toInt32.toInt
def qi2s (x : Int) : Int := (Int32.ofInt x).toInt16.toInt32.toInt
def qi2c (x : Int) : Int := ((Int32.ofInt x).toUInt32 % 65536).toInt32.toInt
def qlcmp (x y : Int64) : Int := if y < x then 1 else if x = y then 0 else -1
section
variable (C : Nat → List qV → qH → qR → Prop) (J : Nat → qL → List qV → qH → Prop) (R : qR) (K : qL → List qV → qH → Prop)
def qcall (a : Nat) (av rest : List qV) (ls : qL) (h : qH) : Prop := qcs rest ≤ 8 ∧ ∃ R' : qR, C a av h R' ∧ ∀ r h', R' r h' → K ls (r.toList ++ rest) h'
/-- calls of an object's method: ci the class of the receiver -/
def qinvv (a b ci : Nat) (ls : qL) (st : List qV) (h : qH) : Prop := qso (qpop b st []) (fun q => q1r q.2 (fun n rest => qob (h n) ci (fun _ => qcall C K a (.inr (.inr (some n)) :: q.1) rest ls h)))
def qinvs (a b : Nat) (ls : qL) (st : List qV) (h : qH) : Prop := qso (qpop b st []) (fun q => qcall C K a q.1 q.2 ls h)
/-- System.arraycopy of ints, of longs -/
def qcp5 (st : List qV) (F : Nat → Int → Nat → Int → Int → List qV → Prop) : Prop := match st with
  | .inl n :: .inl dp :: .inr (.inr (some d)) :: .inl sp :: .inr (.inr (some sr)) :: rest => F sr sp d dp n rest
  | _ => False
def qcpc (cs cd : qC) (F : Nat → (Nat → Int) → Nat → (Nat → Int) → Prop) (G : Nat → (Nat → Int64) → Nat → (Nat → Int64) → Prop) : Prop := match cs, cd with
  | .inr (t, n0, .inl f), .inr (t', n1, .inl g) => t = 0 ∧ t' = 0 ∧ F n0 f n1 g
  | .inr (t, n0, .inr (.inl f)), .inr (t', n1, .inr (.inl g)) => t = 2 ∧ t' = 2 ∧ G n0 f n1 g
  | _, _ => False
def qcopy (ls : qL) (st : List qV) (h : qH) : Prop := qcp5 st (fun sr sp d dp n rest => (sr < qNW ∧ d < qNW ∧ 0 ≤ n ∧ 0 ≤ dp ∧ 0 ≤ sp ∧ n ≤ 2147483647 ∧ dp ≤ 2147483647 ∧ sp ≤ 2147483647 ∧ qcs rest ≤ 8) ∧
    qcpc (h sr) (h d) (fun n0 f n1 g => (sp + n ≤ n0 ∧ dp + n ≤ n1) ∧ K ls rest (qS h d (.inr (0, n1, .inl (qcpy f g sp.toNat dp.toNat n.toNat)))))
      (fun n0 f n1 g => (sp + n ≤ n0 ∧ dp + n ≤ n1) ∧ K ls rest (qS h d (.inr (2, n1, .inr (.inl (qcpy f g sp.toNat dp.toNat n.toNat)))))))
/-- one instruction: a, b, L are what it means here (labels, names of methods, slots ..) -/
def qI (i : Instr) (a b : Nat) (L : List Nat) (ls : qL) (st : List qV) (h : qH) : Prop := match i with
  | .iconst n => K ls (.inl n :: st) h
  | .bipush n => K ls (.inl n :: st) h
  | .sipush n => K ls (.inl n :: st) h
  | .lconst n => K ls (.inr (.inl (Int64.ofNat n.val)) :: st) h
  | .ldc _ => K ls (.inr (.inr (some a)) :: st) h
  | .ldc2_w _ => K ls (.inr (.inl (Int64.ofNat a)) :: st) h
  | .iload k => qil ls k (fun z => K ls (.inl z :: st) h)
  | .iload_n k => qil ls k.val (fun z => K ls (.inl z :: st) h)
  | .lload k => qll ls k (fun z => K ls (.inr (.inl z) :: st) h)
  | .lload_n k => qll ls k.val (fun z => K ls (.inr (.inl z) :: st) h)
  | .aload k => qal ls k (fun z => K ls (.inr (.inr (some z)) :: st) h)
  | .aload_n k => qal ls k.val (fun z => K ls (.inr (.inr (some z)) :: st) h)
  | .istore k => q1i st (fun x st => K (qset ls k b (.inl x)) st h)
  | .istore_n k => q1i st (fun x st => K (qset ls k.val b (.inl x)) st h)
  | .lstore k => q1l st (fun x st => K (qset2 ls k b (.inr (.inl x))) st h)
  | .lstore_n k => q1l st (fun x st => K (qset2 ls k.val b (.inr (.inl x))) st h)
  | .astore k => q1r st (fun x st => K (qset ls k b (.inr (.inr (some x)))) st h)
  | .astore_n k => q1r st (fun x st => K (qset ls k.val b (.inr (.inr (some x)))) st h)
  | .iinc k n => qil ls k (fun z => K (qset ls k b (.inl (z + n))) st h)
  | .iadd => q2i st (fun x y st => K ls (.inl (x + y) :: st) h)
  | .isub => q2i st (fun x y st => K ls (.inl (x - y) :: st) h)
  | .imul => q2i st (fun x y st => K ls (.inl (x * y) :: st) h)
  | .idiv => q2i st (fun x y st => qin x ∧ qin y ∧ ¬ y = 0 ∧ K ls (.inl (x.tdiv y) :: st) h)
  | .irem => q2i st (fun x y st => qin x ∧ qin y ∧ ¬ y = 0 ∧ K ls (.inl (x.tmod y) :: st) h)
  | .iand => q2i st (fun x y st => K ls (.inl (qand x y) :: st) h)
  | .ior => q2i st (fun x y st => K ls (.inl (qor x y) :: st) h)
  | .ishl => q2i st (fun x y st => K ls (.inl (qshl x y) :: st) h)
  | .ishr => q2i st (fun x y st => K ls (.inl (qshr x y) :: st) h)
  | .iushr => q2i st (fun x y st => K ls (.inl (qushr x y) :: st) h)
  | .i2l => q1i st (fun x st => qin x ∧ K ls (.inr (.inl (Int64.ofInt x)) :: st) h)
  | .i2b => q1i st (fun x st => K ls (.inl (qi2b x) :: st) h)
  | .i2s => q1i st (fun x st => K ls (.inl (qi2s x) :: st) h)
  | .i2c => q1i st (fun x st => K ls (.inl (qi2c x) :: st) h)
  | .l2i => q1l st (fun x st => K ls (.inl x.toInt32.toInt :: st) h)
  | .ladd => q2l st (fun x y st => K ls (.inr (.inl (x + y)) :: st) h)
  | .lsub => q2l st (fun x y st => K ls (.inr (.inl (x - y)) :: st) h)
  | .lmul => q2l st (fun x y st => K ls (.inr (.inl (x * y)) :: st) h)
  | .land => q2l st (fun x y st => K ls (.inr (.inl (x &&& y)) :: st) h)
  | .lor => q2l st (fun x y st => K ls (.inr (.inl (x ||| y)) :: st) h)
  | .ldiv => q2l st (fun x y st => ¬ y = 0 ∧ K ls (.inr (.inl (x / y)) :: st) h)
  | .lrem => q2l st (fun x y st => ¬ y = 0 ∧ K ls (.inr (.inl (x - x / y * y)) :: st) h)
  | .lshl => qli st (fun x y st => K ls (.inr (.inl (qlshl x y)) :: st) h)
  | .lushr => qli st (fun x y st => K ls (.inr (.inl (qlushr x y)) :: st) h)
  | .lcmp => q2l st (fun x y st => K ls (.inl (qlcmp x y) :: st) h)
  | .dup => q1v st (fun v st => qcat v = 1 ∧ K ls (v :: v :: st) h)
  | .dup2 => q2v st (fun v w st => qcat v = 1 ∧ qcat w = 1 ∧ K ls (v :: w :: v :: w :: st) h)
  | .pop => q1v st (fun v st => qcat v = 1 ∧ K ls st h)
  | .getfield _ => q1r st (fun n st => qob (h n) b (fun fs => qso fs[a]? (fun v => K ls (v :: st) h)))
  | .putfield _ => qvr st (fun v n st => n < qNW ∧ qob (h n) b (fun fs => a < fs.length ∧ qfit (L.headD 0) v ∧ K ls st (qS h n (.inl (b, fs.set a v)))))
  | .getstatic _ => (match L with
    | [] => K ls (.inr (.inr (some a)) :: st) h
    | _ => K ls (.inl (a : Int) :: st) h)
  | .iaload => qir st (fun i n st => qai (h n) 0 (fun len f => 0 ≤ i ∧ i < len ∧ i ≤ 2147483647 ∧ K ls (.inl (f i.toNat) :: st) h))
  | .baload => qir st (fun i n st => qai (h n) 1 (fun len f => 0 ≤ i ∧ i < len ∧ i ≤ 2147483647 ∧ K ls (.inl (f i.toNat) :: st) h))
  | .laload => qir st (fun i n st => n < qNW ∧ qalg (h n) (fun len f => 0 ≤ i ∧ i < len ∧ i ≤ 2147483647 ∧ K ls (.inr (.inl (f i.toNat)) :: st) h))
  | .aaload => qir st (fun i n st => n < qNW ∧ qar (h n) (fun len f => 0 ≤ i ∧ i < len ∧ i ≤ 2147483647 ∧ qso (f i.toNat) (fun q => K ls (.inr (.inr (some q)) :: st) h)))
  | .iastore => qiir st (fun v i n st => n < qNW ∧ qai (h n) 0 (fun len f => 0 ≤ i ∧ i < len ∧ i ≤ 2147483647 ∧ K ls st (qS h n (.inr (0, len, .inl (qU f i.toNat v))))))
  | .bastore => qiir st (fun v i n st => n < qNW ∧ qai (h n) 1 (fun len f => 0 ≤ i ∧ i < len ∧ i ≤ 2147483647 ∧ -128 ≤ v ∧ v ≤ 127 ∧ K ls st (qS h n (.inr (1, len, .inl (qU f i.toNat v))))))
  | .lastore => qlir st (fun v i n st => n < qNW ∧ qalg (h n) (fun len f => 0 ≤ i ∧ i < len ∧ i ≤ 2147483647 ∧ K ls st (qS h n (.inr (2, len, .inr (.inl (qU f i.toNat v)))))))
  | .arraylength => q1r st (fun n st => qaln (h n) (fun len => K ls (.inl (len : Int) :: st) h))
  | .if_icmp c _ => q2i st (fun x y st => qin x ∧ qin y ∧ (qcmp c x y → J a ls st h) ∧ (¬ qcmp c x y → K ls st h))
  | .ifCond c _ => q1i st (fun x st => qin x ∧ (qcmp c x 0 → J a ls st h) ∧ (¬ qcmp c x 0 → K ls st h))
  | .goto _ => J a ls st h
  | .nop => J a ls st h
  | .tableswitch _ lo _ _ => q1i st (fun x st => qin x ∧ qsw x (fun k => J k ls st h) a lo L)
  | .lookupswitch _ ps => q1i st (fun x st => qin x ∧ qlk x (fun k => J k ls st h) a (ps.toList.map Prod.fst) L)
  | .ireturn => q1i st (fun z st => st = [] ∧ qfit a (.inl z) ∧ R (some (.inl z)) h)
  | .lreturn => q1l st (fun z st => st = [] ∧ R (some (.inr (.inl z))) h)
  | .areturn => q1r st (fun n st => st = [] ∧ R (some (.inr (.inr (some n)))) h)
  | .return_ => st = [] ∧ R none h
  | .invokevirtual _ => qinvv C K a b (L.headD 0) ls st h
  | .invokestatic _ => (match L with
    | 1 :: _ => q2i st (fun x y st => qin x ∧ qin y ∧ qcs st ≤ 8 ∧ K ls (.inl (max x y) :: st) h)
    | 2 :: _ => q2i st (fun x y st => qin x ∧ qin y ∧ qcs st ≤ 8 ∧ K ls (.inl (min x y) :: st) h)
    | 3 :: _ => qcopy K ls st h
    | _ => qinvs C K a b ls st h)
  | _ => False
end
/-- a block; '.nop' stands at the end of one that goes on at the next label -/
def qB (C : Nat → List qV → qH → qR → Prop) (J : Nat → qL → List qV → qH → Prop) (R : qR) : List qN → qL → List qV → qH → Prop
  | [], _, _, _ => False
  | (i, a, b, L) :: r, ls, st, h => qI C J R (qB C J R r) i a b L ls st h
/-- the locals with which a method begins -/
def qEn : Nat → List qV → qL
  | 0, _ => []
  | n + 1, [] => none :: qEn n []
  | n + 1, .inr (.inl x) :: r => some (.inr (.inl x)) :: (match n with
    | 0 => []
    | k + 1 => none :: qEn k r)
  | n + 1, v :: r => some v :: qEn n r
def qlsb (LS : List Nat) : Nat → List qV → Bool
  | _, [] => true
  | i, .inr (.inl _) :: r => decide (i ∈ LS) && qlsb LS (i + 2) r
  | i, _ :: r => qlsb LS (i + 1) r
theorem qS_same (h : qH) (k : Nat) (c : qC) : qS h k c k = c := if_pos rfl
theorem qS_ne {h : qH} {k j : Nat} {c : qC} (hn : j ≠ k) : qS h k c j = h j := if_neg hn
theorem qU_same {α : Type} (f : Nat → α) (k : Nat) (v : α) : qU f k v k = v := if_pos rfl
theorem qU_ne {α : Type} {f : Nat → α} {k j : Nat} {v : α} (hn : j ≠ k) : qU f k v j = f j := if_neg hn
def qnth {α : Type} : List α → Nat → α → α
  | [], _, d => d
  | a :: _, 0, _ => a
  | _ :: r, n + 1, d => qnth r n d
