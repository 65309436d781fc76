-- THE EVALUATOR: a pure machine over a flat memory (an address, a place: a number), for the instructions that the code has; part 04 ties it to the machine.
abbrev xL : Type := List (Nat × Value)
/-- what lies at an address: .inl ci: an object of the class ci of the list; .inr (j, n): an array of sort j (0 int, 1 long, 2 boolean, else references) with n places -/
abbrev xT : Type := Nat ⊕ (Nat × Nat)
/-- the next free address; what lies where; ints, longs, references by address and place -/
abbrev xS : Type := Nat × (Nat → Option xT) × (Nat → Nat → Int32) × (Nat → Nat → Int64) × (Nat → Nat → Option Nat)
/-- an end: .inr v: it returned v; .inl e: it threw a new object of the exception e -/
abbrev xR : Type := (Nat ⊕ Option Value) × xS
def xz (S : xS) : Nat := S.1
def xt (S : xS) : Nat → Option xT := S.2.1
def xi (S : xS) : Nat → Nat → Int32 := S.2.2.1
def xj (S : xS) : Nat → Nat → Int64 := S.2.2.2.1
def xr (S : xS) : Nat → Nat → Option Nat := S.2.2.2.2
def x2 {α : Type} (f : Nat → Nat → α) (a k : Nat) (v : α) : Nat → Nat → α := fun b j => if b = a then (if j = k then v else f b j) else f b j
def xsi (S : xS) (a k : Nat) (v : Int32) : xS := (xz S, xt S, x2 (xi S) a k v, xj S, xr S)
def xsj (S : xS) (a k : Nat) (v : Int64) : xS := (xz S, xt S, xi S, x2 (xj S) a k v, xr S)
def xsr (S : xS) (a k : Nat) (v : Option Nat) : xS := (xz S, xt S, xi S, xj S, x2 (xr S) a k v)
/-- a new cell at the next address, all blank -/
def xnew (S : xS) (t : xT) : xS := (xz S + 1, va_up (xt S) (xz S) (some t), va_up (xi S) (xz S) (fun _ => 0), va_up (xj S) (xz S) (fun _ => 0), va_up (xr S) (xz S) (fun _ => none))
/-- a field's value: sort 1 long, 2 reference, else int -/
def xfv (t : Nat) (i : Nat → Int32) (j : Nat → Int64) (r : Nat → Option Nat) (k : Nat) : Value := if t = 1 then .long (j k) else if t = 2 then va_rf (r k) else .int (i k)
def xfs (L : List Nat) (i : Nat → Int32) (j : Nat → Int64) (r : Nat → Option Nat) : List Value := (List.range L.length).map (fun k => xfv (L.getD k 0) i j r k)
/-- the machine's address of a place: behind B, or a static array's -/
def xad (B : Nat) (g : Nat → Nat) (a : Nat) : Nat := if a < 1000000 then B + a else g (a - 1000000)
def xv (B : Nat) (g : Nat → Nat) (v : Value) : Value := match v with
  | .ref a => .ref (xad B g a)
  | v => v
def xcell (FK : Nat → List Nat) (dA : Nat → ClassId) (t : xT) (i : Nat → Int32) (j : Nat → Int64) (r : Nat → Option Nat) : va_E := match t with
  | .inl ci => .inr (ci, xfs (FK ci) i j r)
  | .inr (k, n) => .inl (dA k, n, if k = 1 then .inr (.inl j) else if k < 3 then .inl i else .inr (.inr (.inr (.inr r))))
abbrev xK : Type := Nat → xL → List Value → Nat → Nat → xS → Option xR
def xld (lv : xL) (i : Nat) : Option Value := (lv.find? (fun q => q.1 == i)).map (fun q => q.2)
def xst1 (lv : xL) (i : Nat) (v : Value) : xL := (i, v) :: lv.filter (fun q => !(q.1 == i) && !(q.1 + 1 == i && q.2.category == 2))
def xst2 (lv : xL) (i : Nat) (v : Value) : xL := (i, v) :: lv.filter (fun q => !(q.1 == i) && (!(q.1 == i + 1) && !(q.1 + 1 == i && q.2.category == 2)))
-- loads
def xldI (k : Value → Option xR) (lv : xL) (i : Nat) : Option xR := match xld lv i with
  | some (.int x) => k (.int x)
  | _ => none
def xldL (k : Value → Option xR) (lv : xL) (i : Nat) : Option xR := match xld lv i with
  | some (.long x) => k (.long x)
  | _ => none
def xldA (k : Value → Option xR) (lv : xL) (i : Nat) : Option xR := match xld lv i with
  | some (.ref x) => k (.ref x)
  | some .null => k .null
  | _ => none
-- stores: k gets the new locals and the rest of the stack
def xstI (k : xL → List Value → Option xR) (lv : xL) (i nL : Nat) (st : List Value) : Option xR := match st with
  | .int x :: r => if i < nL then k (xst1 lv i (.int x)) r else none
  | _ => none
def xstL (k : xL → List Value → Option xR) (lv : xL) (i nL : Nat) (st : List Value) : Option xR := match st with
  | .long x :: r => if i + 1 < nL then k (xst2 lv i (.long x)) r else none
  | _ => none
def xstA (k : xL → List Value → Option xR) (lv : xL) (i nL : Nat) (st : List Value) : Option xR := match st with
  | .ref x :: r => if i < nL then k (xst1 lv i (.ref x)) r else none
  | .null :: r => if i < nL then k (xst1 lv i .null) r else none
  | _ => none
def xinc (k : xL → Option xR) (lv : xL) (i nL : Nat) (n : Int) : Option xR := match xld lv i with
  | some (.int x) => if i < nL then k (xst1 lv i (.int (x + Int32.ofInt n))) else none
  | _ => none
-- arithmetic: k gets the new stack
def xbI (k : List Value → Option xR) (f : Int32 → Int32 → Int32) (st : List Value) : Option xR := match st with
  | .int b :: .int a :: r => k (.int (f a b) :: r)
  | _ => none
def xbD (k : List Value → Option xR) (f : Int32 → Int32 → Int32) (st : List Value) : Option xR := match st with
  | .int b :: .int a :: r => if b = 0 then none else k (.int (f a b) :: r)
  | _ => none
def xbL (k : List Value → Option xR) (f : Int64 → Int64 → Int64) (st : List Value) : Option xR := match st with
  | .long b :: .long a :: r => k (.long (f a b) :: r)
  | _ => none
def xbE (k : List Value → Option xR) (f : Int64 → Int64 → Int64) (st : List Value) : Option xR := match st with
  | .long b :: .long a :: r => if b = 0 then none else k (.long (f a b) :: r)
  | _ => none
def xbS (k : List Value → Option xR) (f : Int64 → Int32 → Int64) (st : List Value) : Option xR := match st with
  | .int b :: .long a :: r => k (.long (f a b) :: r)
  | _ => none
def xbC (k : List Value → Option xR) (st : List Value) : Option xR := match st with
  | .long b :: .long a :: r => k (.int (lg_cmp a b) :: r)
  | _ => none
def xuI (k : List Value → Option xR) (f : Int32 → Value) (st : List Value) : Option xR := match st with
  | .int a :: r => k (f a :: r)
  | _ => none
def xuL (k : List Value → Option xR) (f : Int64 → Value) (st : List Value) : Option xR := match st with
  | .long a :: r => k (f a :: r)
  | _ => none
-- the stack
def xdup (k : List Value → Option xR) (st : List Value) : Option xR := match st with
  | a :: r => if a.category = 1 then k (a :: a :: r) else none
  | _ => none
def xdupx1 (k : List Value → Option xR) (st : List Value) : Option xR := match st with
  | a :: b :: r => if a.category = 1 then (if b.category = 1 then k (a :: b :: a :: r) else none) else none
  | _ => none
def xdupx2 (k : List Value → Option xR) (st : List Value) : Option xR := match st with
  | a :: b :: d :: r => if a.category = 1 then (if b.category = 1 then (if d.category = 1 then k (a :: b :: d :: a :: r) else none) else none) else none
  | _ => none
def xdup2 (k : List Value → Option xR) (st : List Value) : Option xR := match st with
  | a :: b :: r => if a.category = 1 then (if b.category = 1 then k (a :: b :: a :: b :: r) else none) else none
  | _ => none
def xpop (k : List Value → Option xR) (st : List Value) : Option xR := match st with
  | a :: r => if a.category = 1 then k r else none
  | _ => none
def xpop2 (k : List Value → Option xR) (st : List Value) : Option xR := match st with
  | a :: r => if a.category = 2 then k r else none
  | _ => none
-- branches: k gets the place
def xtg (k : Nat → Option xR) (pc : Nat) (off : Int) : Option xR := if (pc : Int) + off < 0 then none else k ((pc : Int) + off).toNat
def xcb (c : Jvm.ClassFile.Cond) (a b : Int32) : Bool := match c with
  | .eq => decide (a = b)
  | .ne => decide (¬ a = b)
  | .lt => decide (a < b)
  | .ge => decide (b ≤ a)
  | .gt => decide (b < a)
  | .le => decide (a ≤ b)
def xif (k : Nat → List Value → Option xR) (c : Jvm.ClassFile.Cond) (pc : Nat) (off : Int) (st : List Value) : Option xR := match st with
  | .int a :: r => if (pc : Int) + off < 0 then none else if xcb c a 0 = true then k ((pc : Int) + off).toNat r else k (pc + 3) r
  | _ => none
def xic (k : Nat → List Value → Option xR) (c : Jvm.ClassFile.Cond) (pc : Nat) (off : Int) (st : List Value) : Option xR := match st with
  | .int b :: .int a :: r => if (pc : Int) + off < 0 then none else if xcb c a b = true then k ((pc : Int) + off).toNat r else k (pc + 3) r
  | _ => none
def xnul (k : Nat → List Value → Option xR) (pc : Nat) (off : Int) (st : List Value) : Option xR := match st with
  | .null :: r => xtg (fun t => k t r) pc off
  | .ref _ :: r => k (pc + 3) r
  | _ => none
def xnnl (k : Nat → List Value → Option xR) (pc : Nat) (off : Int) (st : List Value) : Option xR := match st with
  | .null :: r => k (pc + 3) r
  | .ref _ :: r => xtg (fun t => k t r) pc off
  | _ => none
def xtsw (k : Nat → List Value → Option xR) (pc : Nat) (dflt lo hi : Int) (offs : Array Int) (st : List Value) : Option xR := match st with
  | .int x :: r => if x.toInt < lo ∨ hi < x.toInt then xtg (fun t => k t r) pc dflt else match offs[(x.toInt - lo).toNat]? with
    | some off => xtg (fun t => k t r) pc off
    | none => none
  | _ => none
def xlsw (k : Nat → List Value → Option xR) (pc : Nat) (dflt : Int) (ps : Array (Int × Int)) (st : List Value) : Option xR := match st with
  | .int x :: r => if (ps.toList.zip (ps.toList.drop 1)).all (fun (a, next) => a.1 < next.1) = true then xtg (fun t => k t r) pc (Op.lookupswitch.offset ps.toList dflt x.toInt) else none
  | _ => none
-- the heap
def xgf (k : List Value → Option xR) (o : Option (Nat × Nat)) (S : xS) (st : List Value) : Option xR := match o, st with
  | some (ci, f), .ref a :: r => if xt S a = some (.inl ci) then (if f < (xc_fk ci).length then k (xfv ((xc_fk ci).getD f 0) (xi S a) (xj S a) (xr S a) f :: r) else none) else none
  | _, _ => none
/-- what a store writes: by the field's sort -/
def xpv (t : Nat) (v : Value) (S : xS) (a f : Nat) : Option xS := match v with
  | .int x => if t = 0 then some (xsi S a f x) else if t = 3 then (if x = 0 ∨ x = 1 then some (xsi S a f x) else none) else none
  | .long x => if t = 1 then some (xsj S a f x) else none
  | .ref b => if t = 2 then some (xsr S a f (some b)) else none
  | .null => if t = 2 then some (xsr S a f none) else none
  | _ => none
def xpf (k : List Value → xS → Option xR) (o : Option (Nat × Nat)) (may : Nat → Nat → Bool) (S : xS) (st : List Value) : Option xR := match o, st with
  | some (ci, f), v :: .ref a :: r => if xt S a = some (.inl ci) then (if f < (xc_fk ci).length then (if may ci f = true then (match xpv ((xc_fk ci).getD f 0) v S a f with
    | some S1 => k r S1
    | none => none) else none) else none) else none
  | _, _ => none
def xiald (k : List Value → Option xR) (S : xS) (st : List Value) : Option xR := match st with
  | .int i :: .ref a :: r => (match xt S a with
    | some (.inr (j, n)) => if j = 0 then (if i < 0 ∨ n ≤ i.toNatClampNeg then none else k (.int (xi S a i.toNatClampNeg) :: r)) else none
    | some (.inl _) => none
    | none => if a < 1000000 then none else (match xc_ro (a - 1000000) with
      | some f => if i < 0 ∨ f.length ≤ i.toNatClampNeg then none else k (.int (f.getD i.toNatClampNeg 0) :: r)
      | none => none))
  | _ => none
def xbald (k : List Value → Option xR) (S : xS) (st : List Value) : Option xR := match st with
  | .int i :: .ref a :: r => (match xt S a with
    | some (.inr (j, n)) => if j = 2 then (if i < 0 ∨ n ≤ i.toNatClampNeg then none else k (.int (xi S a i.toNatClampNeg) :: r)) else none
    | _ => none)
  | _ => none
def xbast (k : List Value → xS → Option xR) (S : xS) (st : List Value) : Option xR := match st with
  | .int x :: .int i :: .ref a :: r => (match xt S a with
    | some (.inr (j, n)) => if j = 2 then (if i < 0 ∨ n ≤ i.toNatClampNeg then none else (if x = 0 ∨ x = 1 then k r (xsi S a i.toNatClampNeg x) else none)) else none
    | _ => none)
  | _ => none
def xlald (k : List Value → Option xR) (S : xS) (st : List Value) : Option xR := match st with
  | .int i :: .ref a :: r => (match xt S a with
    | some (.inr (j, n)) => if j = 1 then (if i < 0 ∨ n ≤ i.toNatClampNeg then none else k (.long (xj S a i.toNatClampNeg) :: r)) else none
    | _ => none)
  | _ => none
def xaald (k : List Value → Option xR) (S : xS) (st : List Value) : Option xR := match st with
  | .int i :: .ref a :: r => (match xt S a with
    | some (.inr (j, n)) => if 3 ≤ j then (if j < xc_na then (if i < 0 ∨ n ≤ i.toNatClampNeg then none else k (va_rf (xr S a i.toNatClampNeg) :: r)) else none) else none
    | _ => none)
  | _ => none
def xiast (k : List Value → xS → Option xR) (S : xS) (st : List Value) : Option xR := match st with
  | .int x :: .int i :: .ref a :: r => (match xt S a with
    | some (.inr (j, n)) => if j = 0 then (if i < 0 ∨ n ≤ i.toNatClampNeg then none else k r (xsi S a i.toNatClampNeg x)) else none
    | _ => none)
  | _ => none
def xlast (k : List Value → xS → Option xR) (S : xS) (st : List Value) : Option xR := match st with
  | .long x :: .int i :: .ref a :: r => (match xt S a with
    | some (.inr (j, n)) => if j = 1 then (if i < 0 ∨ n ≤ i.toNatClampNeg then none else k r (xsj S a i.toNatClampNeg x)) else none
    | _ => none)
  | _ => none
def xaast (k : List Value → xS → Option xR) (S : xS) (st : List Value) : Option xR := match st with
  | .ref v :: .int i :: .ref a :: r => (match xt S a with
    | some (.inr (j, n)) => if 3 ≤ j then (if j < xc_na then (if i < 0 ∨ n ≤ i.toNatClampNeg then none else (if xt S v = some (.inl (xc_ac j)) then k r (xsr S a i.toNatClampNeg (some v)) else none)) else none) else none
    | _ => none)
  | _ => none
def xnewo (k : Nat → Nat → xS → Option xR) (o : Option Nat) (mc ms c q : Nat) (S : xS) : Option xR := match o with
  | some ci => if c + 1 ≤ mc then (if q + (xc_fk ci).length ≤ ms then (if xz S < 1000000 then k (c + 1) (q + (xc_fk ci).length) (xnew S (.inl ci)) else none) else none) else none
  | none => none
def xnewa (k : List Value → Nat → Nat → xS → Option xR) (o : Option Nat) (mc ms c q : Nat) (S : xS) (st : List Value) : Option xR := match o, st with
  | some j, .int n :: r => if n < 0 then none else (if 60000000 < n.toNatClampNeg then none else (if c + 1 ≤ mc then (if q + n.toNatClampNeg ≤ ms then (if xz S < 1000000 then k (.ref (xz S) :: r) (c + 1) (q + n.toNatClampNeg) (xnew S (.inr (j, n.toNatClampNeg))) else none) else none) else none))
  | _, _ => none
/-- the receiver: kind 1 (a method called on an object): an object of just that class; kind 2 (a constructor): a reference; kind 0: none -/
def xrcv (y : Nat) (S : xS) (as : List Value) : Bool := match as with
  | .ref b :: _ => decide (xc_kind y = 2) || decide (xc_kind y = 0) || (decide (xc_kind y = 1) && decide (xt S b = some (.inl (xc_yc y))))
  | _ => decide (xc_kind y = 0)
-- calls: o: the callee and how many values it takes; lev: the caller's level; hd, k2: where an exception of the callee goes on
def xcl (k : List Value → Nat → Nat → xS → Option xR) (k2 : Nat → List Value → Nat → Nat → xS → Option xR) (hd : Nat → Option Nat) (call : Nat → List Value → xS → Option xR) (o : Option (Nat × Nat)) (lev mc ms c q : Nat) (S : xS) (st : List Value) : Option xR := match o with
  | some (y, na) => if na ≤ st.length then (if xc_lev y < lev then (if c + xc_mc y ≤ mc then (if q + xc_ms y ≤ ms then (if ((st.drop na).map fun v => v.category).sum ≤ 8 then (if xrcv y S (st.take na).reverse = true then (match call y (st.take na).reverse S with
    | some (.inr v, S1) => k (v.toList ++ st.drop na) (c + xc_mc y) (q + xc_ms y) S1
    | some (.inl ex, S1) => (match hd ex with
      | some t => if xz S1 ≤ 1000000 then k2 t [.ref (xz S1 - 1)] (c + xc_mc y) (q + xc_ms y) S1 else none
      | none => none)
    | none => none) else none) else none) else none) else none) else none) else none
  | none => none
-- ends
def xret (y : Nat) (S : xS) (st : List Value) : Option xR := match st with
  | [.int v] => if xc_ret y = 1 then some (.inr (some (.int v)), S) else if xc_ret y = 2 then (if v = 0 ∨ v = 1 then some (.inr (some (.int v)), S) else none) else none
  | _ => none
def xrel (y : Nat) (S : xS) (st : List Value) : Option xR := match st with
  | [.long v] => if xc_ret y = 3 then some (.inr (some (.long v)), S) else none
  | _ => none
def xrea (y : Nat) (S : xS) (st : List Value) : Option xR := match st with
  | [.ref v] => if xc_ret y = 4 then some (.inr (some (.ref v)), S) else none
  | _ => none
def xrev (y : Nat) (S : xS) (st : List Value) : Option xR := match st with
  | [] => if xc_ret y = 0 then some (.inr none, S) else none
  | _ => none
def xlc (k : Int32 → Option xR) (o : Option Int32) : Option xR := match o with
  | some v => k v
  | none => none
def xlc2 (k : Int64 → Option xR) (o : Option Int64) : Option xR := match o with
  | some v => k v
  | none => none
def xgs (k : Nat → Option xR) (o : Option Nat) : Option xR := match o with
  | some v => k v
  | none => none
/-- Object.<init> -/
def xobj (k : List Value → Option xR) (st : List Value) : Option xR := match st with
  | .ref _ :: r => if (r.map fun v => v.category).sum ≤ 8 then k r else none
  | _ => none
def xmin (k : List Value → Option xR) (st : List Value) : Option xR := match st with
  | .int b :: .int a :: r => if (r.map fun v => v.category).sum ≤ 8 then k (.int (if b < a then b else a) :: r) else none
  | _ => none
/-- new E; dup; invokespecial E.<init>; athrow, in one: the exception's cell is made and is nobody's -/
def xthr (o : Option (Nat × Nat)) (y pc mc ms c q : Nat) (S : xS) : Option xR := match o with
  | some (e, n) => if c + 1 ≤ mc then (if q + n ≤ ms then (if xc_thr y pc = true then some (.inl e, (xz S + 1, xt S, xi S, xj S, xr S)) else none) else none) else none
  | none => none
def xstep (K : xK) (call : Nat → List Value → xS → Option xR) (y pc : Nat) (i : Instr) (lv : xL) (st : List Value) (c q : Nat) (S : xS) : Option xR := match i with
  | .iconst n => K (pc + 1) lv (.int (Int32.ofInt n) :: st) c q S
  | .bipush n => K (pc + 2) lv (.int (Int8.ofInt n).toInt32 :: st) c q S
  | .sipush n => K (pc + 3) lv (.int (Int16.ofInt n).toInt32 :: st) c q S
  | .lconst n => K (pc + 1) lv (.long (Int64.ofNat (n : Nat)) :: st) c q S
  | .aconst_null => K (pc + 1) lv (.null :: st) c q S
  | .ldc x => xlc (fun v => K (pc + 2) lv (.int v :: st) c q S) (xc_int (xc_own y) x)
  | .ldc2_w x => xlc2 (fun v => K (pc + 3) lv (.long v :: st) c q S) (xc_long (xc_own y) x)
  | .iload_n n => xldI (fun v => K (pc + 1) lv (v :: st) c q S) lv n
  | .iload n => xldI (fun v => K (pc + 2) lv (v :: st) c q S) lv n
  | .lload_n n => xldL (fun v => K (pc + 1) lv (v :: st) c q S) lv n
  | .lload n => xldL (fun v => K (pc + 2) lv (v :: st) c q S) lv n
  | .aload_n n => xldA (fun v => K (pc + 1) lv (v :: st) c q S) lv n
  | .aload n => xldA (fun v => K (pc + 2) lv (v :: st) c q S) lv n
  | .istore_n n => xstI (fun lv r => K (pc + 1) lv r c q S) lv n (xc_nl y) st
  | .istore n => xstI (fun lv r => K (pc + 2) lv r c q S) lv n (xc_nl y) st
  | .lstore_n n => xstL (fun lv r => K (pc + 1) lv r c q S) lv n (xc_nl y) st
  | .lstore n => xstL (fun lv r => K (pc + 2) lv r c q S) lv n (xc_nl y) st
  | .astore_n n => xstA (fun lv r => K (pc + 1) lv r c q S) lv n (xc_nl y) st
  | .astore n => xstA (fun lv r => K (pc + 2) lv r c q S) lv n (xc_nl y) st
  | .iinc n d => xinc (fun lv => K (pc + 3) lv st c q S) lv n (xc_nl y) d
  | .iadd => xbI (fun r => K (pc + 1) lv r c q S) (fun a b => a + b) st
  | .isub => xbI (fun r => K (pc + 1) lv r c q S) (fun a b => a - b) st
  | .imul => xbI (fun r => K (pc + 1) lv r c q S) (fun a b => a * b) st
  | .iand => xbI (fun r => K (pc + 1) lv r c q S) (fun a b => a &&& b) st
  | .ior => xbI (fun r => K (pc + 1) lv r c q S) (fun a b => a ||| b) st
  | .ixor => xbI (fun r => K (pc + 1) lv r c q S) (fun a b => a ^^^ b) st
  | .ishl => xbI (fun r => K (pc + 1) lv r c q S) (fun a b => a <<< (b &&& 31)) st
  | .ishr => xbI (fun r => K (pc + 1) lv r c q S) (fun a b => a >>> (b &&& 31)) st
  | .iushr => xbI (fun r => K (pc + 1) lv r c q S) (fun a b => (a.toUInt32 >>> (b.toUInt32 &&& Int32.toUInt32 31)).toInt32) st
  | .idiv => xbD (fun r => K (pc + 1) lv r c q S) (fun a b => a / b) st
  | .irem => xbD (fun r => K (pc + 1) lv r c q S) (fun a b => a - a / b * b) st
  | .ineg => xuI (fun r => K (pc + 1) lv r c q S) (fun a => .int (-a)) st
  | .ladd => xbL (fun r => K (pc + 1) lv r c q S) (fun a b => a + b) st
  | .lsub => xbL (fun r => K (pc + 1) lv r c q S) (fun a b => a - b) st
  | .lmul => xbL (fun r => K (pc + 1) lv r c q S) (fun a b => a * b) st
  | .land => xbL (fun r => K (pc + 1) lv r c q S) (fun a b => a &&& b) st
  | .lor => xbL (fun r => K (pc + 1) lv r c q S) (fun a b => a ||| b) st
  | .lxor => xbL (fun r => K (pc + 1) lv r c q S) (fun a b => a ^^^ b) st
  | .ldiv => xbE (fun r => K (pc + 1) lv r c q S) (fun a b => a / b) st
  | .lrem => xbE (fun r => K (pc + 1) lv r c q S) (fun a b => a - a / b * b) st
  | .lneg => xuL (fun r => K (pc + 1) lv r c q S) (fun a => .long (-a)) st
  | .lshl => xbS (fun r => K (pc + 1) lv r c q S) (fun a b => a <<< (b.toInt64 &&& 63)) st
  | .lshr => xbS (fun r => K (pc + 1) lv r c q S) (fun a b => a >>> (b.toInt64 &&& 63)) st
  | .lushr => xbS (fun r => K (pc + 1) lv r c q S) (fun a b => (a.toUInt64 >>> (b.toInt64.toUInt64 &&& Int64.toUInt64 63)).toInt64) st
  | .lcmp => xbC (fun r => K (pc + 1) lv r c q S) st
  | .i2l => xuI (fun r => K (pc + 1) lv r c q S) (fun a => .long a.toInt64) st
  | .l2i => xuL (fun r => K (pc + 1) lv r c q S) (fun a => .int a.toInt32) st
  | .dup => xdup (fun r => K (pc + 1) lv r c q S) st
  | .dup_x1 => xdupx1 (fun r => K (pc + 1) lv r c q S) st
  | .dup_x2 => xdupx2 (fun r => K (pc + 1) lv r c q S) st
  | .dup2 => xdup2 (fun r => K (pc + 1) lv r c q S) st
  | .pop => xpop (fun r => K (pc + 1) lv r c q S) st
  | .pop2 => xpop2 (fun r => K (pc + 1) lv r c q S) st
  | .ifCond d off => xif (fun t r => K t lv r c q S) d pc off st
  | .if_icmp d off => xic (fun t r => K t lv r c q S) d pc off st
  | .ifnull off => xnul (fun t r => K t lv r c q S) pc off st
  | .ifnonnull off => xnnl (fun t r => K t lv r c q S) pc off st
  | .goto off => xtg (fun t => K t lv st c q S) pc off
  | .tableswitch d lo hi offs => xtsw (fun t r => K t lv r c q S) pc d lo hi offs st
  | .lookupswitch d ps => xlsw (fun t r => K t lv r c q S) pc d ps st
  | .getfield x => xgf (fun r => K (pc + 3) lv r c q S) (xc_fld (xc_own y) x) S st
  | .putfield x => xpf (fun r S => K (pc + 3) lv r c q S) (xc_fld (xc_own y) x) (xc_may y) S st
  | .getstatic x => xgs (fun v => K (pc + 3) lv (.ref (1000000 + v) :: st) c q S) (xc_sta (xc_own y) x)
  | .iaload => xiald (fun r => K (pc + 1) lv r c q S) S st
  | .baload => xbald (fun r => K (pc + 1) lv r c q S) S st
  | .bastore => xbast (fun r S => K (pc + 1) lv r c q S) S st
  | .laload => xlald (fun r => K (pc + 1) lv r c q S) S st
  | .aaload => xaald (fun r => K (pc + 1) lv r c q S) S st
  | .iastore => xiast (fun r S => K (pc + 1) lv r c q S) S st
  | .lastore => xlast (fun r S => K (pc + 1) lv r c q S) S st
  | .aastore => xaast (fun r S => K (pc + 1) lv r c q S) S st
  | .new x => if xc_exc (xc_own y) x = none then xnewo (fun c q S1 => K (pc + 3) lv (.ref (xz S) :: st) c q S1) (xc_new (xc_own y) x) (xc_mc y) (xc_ms y) c q S else (if (st.map fun v => v.category).sum ≤ 8 then xthr (xc_exc (xc_own y) x) y pc (xc_mc y) (xc_ms y) c q S else none)
  | .newarray .int => xnewa (fun r c q S1 => K (pc + 2) lv r c q S1) (some 0) (xc_mc y) (xc_ms y) c q S st
  | .newarray .long => xnewa (fun r c q S1 => K (pc + 2) lv r c q S1) (some 1) (xc_mc y) (xc_ms y) c q S st
  | .newarray .boolean => xnewa (fun r c q S1 => K (pc + 2) lv r c q S1) (some 2) (xc_mc y) (xc_ms y) c q S st
  | .anewarray x => xnewa (fun r c q S1 => K (pc + 3) lv r c q S1) (xc_anew (xc_own y) x) (xc_mc y) (xc_ms y) c q S st
  | .invokevirtual x => xcl (fun r c q S => K (pc + 3) lv r c q S) (fun t r c q S => K t lv r c q S) (xc_hnd y pc) call (xc_vrt (xc_own y) x) (xc_lev y) (xc_mc y) (xc_ms y) c q S st
  | .invokespecial x => if xc_obj (xc_own y) x = true then xobj (fun r => K (pc + 3) lv r c q S) st else xcl (fun r c q S => K (pc + 3) lv r c q S) (fun t r c q S => K t lv r c q S) (xc_hnd y pc) call (xc_spc (xc_own y) x) (xc_lev y) (xc_mc y) (xc_ms y) c q S st
  | .invokestatic x => if xc_min (xc_own y) x = true then (if c ≤ xc_mc y then (if q ≤ xc_ms y then xmin (fun r => K (pc + 3) lv r c q S) st else none) else none) else xcl (fun r c q S => K (pc + 3) lv r c q S) (fun t r c q S => K t lv r c q S) (xc_hnd y pc) call (xc_stt (xc_own y) x) (xc_lev y) (xc_mc y) (xc_ms y) c q S st
  | .ireturn => if c ≤ xc_mc y then (if q ≤ xc_ms y then xret y S st else none) else none
  | .lreturn => if c ≤ xc_mc y then (if q ≤ xc_ms y then xrel y S st else none) else none
  | .areturn => if c ≤ xc_mc y then (if q ≤ xc_ms y then xrea y S st else none) else none
  | .return_ => if c ≤ xc_mc y then (if q ≤ xc_ms y then xrev y S st else none) else none
  | _ => none
/-- n: how many instructions at the most, and how deep -/
def xev : Nat → Nat → xK
  | 0, _ => fun _ _ _ _ _ _ => none
  | n + 1, y => fun pc lv st c q S => match xc_code y pc with
    | some i => xstep (xev n y) (fun y2 as S2 => if (lg_sl as).length ≤ xc_nl y2 then xev n y2 0 (lv_args 0 as) [] 0 0 S2 else none) y pc i lv st c q S
    | none => none
/-- method y on the values as and the memory S -/
def xmeth (n y : Nat) (as : List Value) (S : xS) : Option xR := if (lg_sl as).length ≤ xc_nl y then xev n y 0 (lv_args 0 as) [] 0 0 S else none
