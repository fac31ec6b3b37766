/-! A machine of our own over the program as data: one step, a run with fuel, and (next part) that W follows it. -/
abbrev AE : Type := (Nat × Nat × ((Nat → Int32) ⊕ (Nat → Option Nat))) ⊕ (Nat × List Value)
abbrev AHp : Type := List AE
abbrev Scr : Type := Option (Nat × (Nat → Int32))
def tv (B b : Nat) : Value → Value
  | .ref a => .ref (B + a)
  | .retAddr _ => .ref b
  | v => v
def tE (B b : Nat) (dA : Nat → ClassId) : AE → va_E
  | .inl (k, n, .inl f) => .inl (dA k, n, .inl f)
  | .inl (k, n, .inr f) => .inl (dA k, n, .inr (.inr (.inr (.inr (fun j => (f j).map (B + ·))))))
  | .inr (c, fs) => .inr (c, fs.map (tv B b))
def szE : AE → Nat
  | .inl (_, n, _) => n
  | .inr (_, fs) => fs.length
def szH (h : AHp) : Nat := (h.map szE).sum
def arf : Option Nat → Value
  | none => .null
  | some a => .ref a
def dflt (c : Nat) : List Value := match c with
  | 0 => [.null, .null, .null, .int 0]
  | 1 => [.int 0, .int 0, .int 0, .int 0, .null]
  | 2 => [.null, .int 0, .int 0, .int 0, .int 0, .int 0, .int 0, .null, .int 0]
  | 3 => [.null, .int 0, .null, .null, .int 0, .null, .int 0, .int 0, .int 0, .int 0, .int 0]
  | _ => [.null, .null, .null, .int 0, .null, .null]
def tyAt (c : Nat) : Nat → FieldType := match c with
  | 0 => tyX0
  | 1 => tyX1
  | 2 => tyX2
  | 3 => tyX3
  | _ => tyX4
def vOk (ty : FieldType) (v : Value) : Bool := match ty, v with
  | .int, .int _ => true
  | .boolean, .int x => x == 0 || x == 1
  | .object _, .ref _ => true
  | .object _, .null => true
  | .array _, .ref _ => true
  | .array _, .null => true
  | _, _ => false
/-- which class an array of references holds -/
def kindC (k : Nat) : Nat := if k = 1 then 0 else if k = 2 then 1 else 3
def pcT (pc : Nat) (o : Int) : Nat := ((pc : Int) + o).toNat
def cB : ClassFile.Cond → Int32 → Int32 → Bool
  | .eq, x, y => decide (x = y)
  | .ne, x, y => decide (¬ x = y)
  | .lt, x, y => decide (x < y)
  | .ge, x, y => decide (y ≤ x)
  | .gt, x, y => decide (y < x)
  | .le, x, y => decide (x ≤ y)
def swT (pc : Nat) (d lo hi : Int) (os : Array Int) (x : Int32) : Nat := if x.toInt < lo ∨ hi < x.toInt then pcT pc d else match os[(x.toInt - lo).toNat]? with
  | some o => pcT pc o
  | none => 0
def swOk (lo hi : Int) (os : Array Int) (x : Int32) : Bool := decide (x.toInt < lo ∨ hi < x.toInt) || (os[(x.toInt - lo).toNat]?).isSome
abbrev Cfg : Type := Nat × List Value × List Value × AHp
/-- one instruction that neither calls nor returns -/
def ex1 (sc : Scr) (e : Ent) (ls stk : List Value) (h : AHp) : Option Cfg := match e.2.1 with
  | .iconst n => some (e.1 + 1, ls, .int (Int32.ofInt n) :: stk, h)
  | .bipush n => some (e.1 + 2, ls, .int (Int8.ofInt n).toInt32 :: stk, h)
  | .sipush n => some (e.1 + 3, ls, .int (Int16.ofInt n).toInt32 :: stk, h)
  | .ldc _ => some (e.1 + 2, ls, .int (Int32.ofInt e.2.2.2) :: stk, h)
  | .ldc_w _ => some (e.1 + 3, ls, .int (Int32.ofInt e.2.2.2) :: stk, h)
  | .aconst_null => some (e.1 + 1, ls, .null :: stk, h)
  | .iload_n k => match ls[k.val]? with
    | some (.int x) => some (e.1 + 1, ls, .int x :: stk, h)
    | _ => none
  | .iload k => match ls[k]? with
    | some (.int x) => some (e.1 + 2, ls, .int x :: stk, h)
    | _ => none
  | .aload_n k => match ls[k.val]? with
    | some (.ref a) => some (e.1 + 1, ls, .ref a :: stk, h)
    | some (.retAddr a) => some (e.1 + 1, ls, .retAddr a :: stk, h)
    | some .null => some (e.1 + 1, ls, .null :: stk, h)
    | _ => none
  | .aload k => match ls[k]? with
    | some (.ref a) => some (e.1 + 2, ls, .ref a :: stk, h)
    | _ => none
  | .istore_n k => match stk with
    | .int x :: r => if k.val < ls.length then some (e.1 + 1, ls.set k.val (.int x), r, h) else none
    | _ => none
  | .istore k => match stk with
    | .int x :: r => if k < ls.length then some (e.1 + 2, ls.set k (.int x), r, h) else none
    | _ => none
  | .astore_n k => match stk with
    | .ref a :: r => if k.val < ls.length then some (e.1 + 1, ls.set k.val (.ref a), r, h) else none
    | .null :: r => if k.val < ls.length then some (e.1 + 1, ls.set k.val .null, r, h) else none
    | _ => none
  | .astore k => match stk with
    | .ref a :: r => if k < ls.length then some (e.1 + 2, ls.set k (.ref a), r, h) else none
    | _ => none
  | .iinc k n => match ls[k]? with
    | some (.int x) => some (e.1 + 3, ls.set k (.int (x + Int32.ofInt n)), stk, h)
    | _ => none
  | .iadd => match stk with
    | .int y :: .int x :: r => some (e.1 + 1, ls, .int (x + y) :: r, h)
    | _ => none
  | .isub => match stk with
    | .int y :: .int x :: r => some (e.1 + 1, ls, .int (x - y) :: r, h)
    | _ => none
  | .imul => match stk with
    | .int y :: .int x :: r => some (e.1 + 1, ls, .int (x * y) :: r, h)
    | _ => none
  | .iand => match stk with
    | .int y :: .int x :: r => some (e.1 + 1, ls, .int (x &&& y) :: r, h)
    | _ => none
  | .ior => match stk with
    | .int y :: .int x :: r => some (e.1 + 1, ls, .int (x ||| y) :: r, h)
    | _ => none
  | .ixor => match stk with
    | .int y :: .int x :: r => some (e.1 + 1, ls, .int (x ^^^ y) :: r, h)
    | _ => none
  | .ishl => match stk with
    | .int y :: .int x :: r => some (e.1 + 1, ls, .int (x <<< (y &&& 31)) :: r, h)
    | _ => none
  | .ishr => match stk with
    | .int y :: .int x :: r => some (e.1 + 1, ls, .int (x >>> (y &&& 31)) :: r, h)
    | _ => none
  | .iushr => match stk with
    | .int y :: .int x :: r => some (e.1 + 1, ls, .int (x.toUInt32 >>> (y.toUInt32 &&& Int32.toUInt32 31)).toInt32 :: r, h)
    | _ => none
  | .idiv => match stk with
    | .int y :: .int x :: r => if y = 0 then none else some (e.1 + 1, ls, .int (x / y) :: r, h)
    | _ => none
  | .irem => match stk with
    | .int y :: .int x :: r => if y = 0 then none else some (e.1 + 1, ls, .int (x - x / y * y) :: r, h)
    | _ => none
  | .dup => match stk with
    | v :: r => if v.category = 1 then some (e.1 + 1, ls, v :: v :: r, h) else none
    | _ => none
  | .dup2 => match stk with
    | v :: w :: r => if v.category = 1 ∧ w.category = 1 then some (e.1 + 1, ls, v :: w :: v :: w :: r, h) else none
    | _ => none
  | .pop => match stk with
    | v :: r => if v.category = 1 then some (e.1 + 1, ls, r, h) else none
    | _ => none
  | .goto o => some (pcT e.1 o, ls, stk, h)
  | .ifCond c o => match stk with
    | .int x :: r => some (if cB c x 0 then pcT e.1 o else e.1 + 3, ls, r, h)
    | _ => none
  | .if_icmp c o => match stk with
    | .int y :: .int x :: r => some (if cB c x y then pcT e.1 o else e.1 + 3, ls, r, h)
    | _ => none
  | .ifnull o => match stk with
    | .ref _ :: r => some (e.1 + 3, ls, r, h)
    | .null :: r => some (pcT e.1 o, ls, r, h)
    | _ => none
  | .ifnonnull o => match stk with
    | .ref _ :: r => some (pcT e.1 o, ls, r, h)
    | .null :: r => some (e.1 + 3, ls, r, h)
    | _ => none
  | .tableswitch d lo hi os => match stk with
    | .int x :: r => if swOk lo hi os x then some (swT e.1 d lo hi os x, ls, r, h) else none
    | _ => none
  | .lookupswitch d ps => match stk with
    | .int x :: r => some (pcT e.1 (Op.lookupswitch.offset ps.toList d x.toInt), ls, r, h)
    | _ => none
  | .arraylength => match stk, sc with
    | .retAddr _ :: r, some (L, _) => some (e.1 + 1, ls, .int (Int32.ofNat L) :: r, h)
    | _, _ => none
  | .iaload => match stk with
    | .int j :: .ref a :: r => match h[a]? with
      | some (.inl (0, n, .inl f)) => if j < 0 ∨ n ≤ j.toNatClampNeg then none else some (e.1 + 1, ls, .int (f j.toNatClampNeg) :: r, h)
      | _ => none
    | .int j :: .retAddr _ :: r => match sc with
      | some (L, xs) => if j < 0 ∨ L ≤ j.toNatClampNeg then none else some (e.1 + 1, ls, .int (xs j.toNatClampNeg) :: r, h)
      | _ => none
    | _ => none
  | .iastore => match stk with
    | .int x :: .int j :: .ref a :: r => match h[a]? with
      | some (.inl (0, n, .inl f)) => if j < 0 ∨ n ≤ j.toNatClampNeg then none else some (e.1 + 1, ls, r, h.set a (.inl (0, n, .inl (upd f j.toNatClampNeg x))))
      | _ => none
    | _ => none
  | .aaload => match stk with
    | .int j :: .ref a :: r => match h[a]? with
      | some (.inl (k, n, .inr f)) => if k = 0 ∨ 4 ≤ k ∨ j < 0 ∨ n ≤ j.toNatClampNeg then none else some (e.1 + 1, ls, arf (f j.toNatClampNeg) :: r, h)
      | _ => none
    | _ => none
  | .aastore => match stk with
    | .ref v :: .int j :: .ref a :: r => match h[a]?, h[v]? with
      | some (.inl (k, n, .inr f)), some (.inr (c, _)) => if k = 0 ∨ 4 ≤ k ∨ ¬ c = kindC k ∨ j < 0 ∨ n ≤ j.toNatClampNeg then none else some (e.1 + 1, ls, r, h.set a (.inl (k, n, .inr (va_up f j.toNatClampNeg (some v)))))
      | _, _ => none
    | _ => none
  | .newarray _ => match stk with
    | .int n :: r => if n < 0 ∨ 100000 < n.toNatClampNeg then none else some (e.1 + 2, ls, .ref h.length :: r, h ++ [.inl (0, n.toNatClampNeg, .inl (fun _ => 0))])
    | _ => none
  | .anewarray _ => match stk with
    | .int n :: r => if n < 0 ∨ 100000 < n.toNatClampNeg then none else some (e.1 + 3, ls, .ref h.length :: r, h ++ [.inl (e.2.2.1, n.toNatClampNeg, .inr (fun _ => none))])
    | _ => none
  | .new _ => some (e.1 + 3, ls, .ref h.length :: stk, h ++ [.inr (e.2.2.1, dflt e.2.2.1)])
  | .getfield _ => match stk with
    | .ref a :: r => match h[a]? with
      | some (.inr (c, fs)) => if c = e.2.2.1 then match fs[e.2.2.2.toNat]? with
        | some v => some (e.1 + 3, ls, v :: r, h)
        | none => none
        else none
      | _ => none
    | _ => none
  | .putfield _ => match stk with
    | v :: .ref a :: r => match h[a]? with
      | some (.inr (c, fs)) => if c = e.2.2.1 ∧ e.2.2.2.toNat < fs.length ∧ vOk (tyAt c e.2.2.2.toNat) v = true then some (e.1 + 3, ls, r, h.set a (.inr (c, fs.set e.2.2.2.toNat v))) else none
      | _ => none
    | _ => none
  | .invokespecial _ => if e.2.2.1 = OBJ then match stk with
    | .ref _ :: r => if r.length ≤ 8 ∧ r.all (fun v => v.category == 1) = true then some (e.1 + 3, ls, r, h) else none
    | _ => none
    else none
  | .invokestatic _ => if e.2.2.1 = ACP then match stk with
    | .int n :: .int dp :: .ref a :: .int sp :: .ref a0 :: r => match h[a0]?, h[a]? with
      | some (.inl (0, n0, .inl f)), some (.inl (0, n1, .inl g)) => if sp < 0 ∨ dp < 0 ∨ n < 0 ∨ n0 < sp.toNatClampNeg + n.toNatClampNeg ∨ n1 < dp.toNatClampNeg + n.toNatClampNeg ∨ ¬ (r.length ≤ 8 ∧ r.all (fun v => v.category == 1) = true) then none
        else some (e.1 + 3, ls, r, h.set a (.inl (0, n1, .inl (va_cpy f g sp.toNatClampNeg dp.toNatClampNeg n.toNatClampNeg))))
      | _, _ => none
    | _ => none
    else none
  | _ => none
def kindI (i : Instr) (r1 : Nat) : Nat := match i with
  | .ireturn | .areturn | .return_ => 1
  | .invokevirtual _ => 2
  | .invokestatic _ => if r1 = ACP then 0 else 2
  | .invokespecial _ => if r1 = OBJ then 0 else 2
  | _ => 0
def isObj : Option FieldType → Bool
  | some (.object _) => true
  | _ => false
def zRet (y : Nat) (i : Instr) (stk : List Value) : Option (Option Value) := match i, stk with
  | .ireturn, [.int v] => if mRet y = some .int ∨ (mRet y = some .boolean ∧ (v = 0 ∨ v = 1)) then some (some (.int v)) else none
  | .areturn, [.ref a] => if isObj (mRet y) = true then some (some (.ref a)) else none
  | .return_, [] => if mRet y = none then some none else none
  | _, _ => none
/-- how deep the stack below a call may be; which callee is given the script -/
def rB (z : Nat) : Nat := if z = NCELL then 16 else 8
def scOf (z : Nat) (sc : Scr) : Scr := if z = NCELL then sc else none
theorem scOf_ne {z : Nat} {sc : Scr} (h : ¬ z = NCELL) : scOf z sc = none := if_neg h
theorem scOf_eq {sc : Scr} : scOf NCELL sc = sc := if_pos rfl
def zCall (i : Instr) (z : Nat) (stk : List Value) (h : AHp) : Option (List Value × List Value) :=
  if ¬ (mArgs z ≤ stk.length ∧ stk.length ≤ mArgs z + rB z ∧ stk.all (fun v => v.category == 1) = true) then none else match i with
  | .invokestatic _ => some ((stk.take (mArgs z)).reverse, stk.drop (mArgs z))
  | .invokevirtual _ => match stk.drop (mArgs z) with
    | .ref b :: r => match h[b]? with
      | some (.inr (c, _)) => if c = mCi z then some (.ref b :: (stk.take (mArgs z)).reverse, r) else none
      | _ => none
    | _ => none
  | .invokespecial _ => match stk.drop (mArgs z) with
    | .ref b :: r => some (.ref b :: (stk.take (mArgs z)).reverse, r)
    | _ => none
  | _ => none
def ent0 (z : Nat) (as : List Value) : List Value := as ++ List.replicate (mMaxL z - as.length) (.long 0)
def fet (y pc : Nat) : Option Ent := (kOf y).find? (fun e => e.1 == pc)
def run : Nat → Scr → Nat → Nat → List Value → List Value → AHp → Option (Option Value × AHp)
  | 0, _, _, _, _, _, _ => none
  | n + 1, sc, y, pc, ls, stk, h =>
    match fet y pc with
    | none => none
    | some e =>
      match kindI e.2.1 e.2.2.1 with
      | 0 => (ex1 sc e ls stk h).bind (fun q => run n sc y q.1 q.2.1 q.2.2.1 q.2.2.2)
      | 1 => (zRet y e.2.1 stk).map (fun v => (v, h))
      | _ => (zCall e.2.1 e.2.2.1 stk h).bind (fun q => (run n (scOf e.2.2.1 sc) e.2.2.1 0 (ent0 e.2.2.1 q.1) [] h).bind (fun r => run n sc y (e.1 + 3) ls (r.1.toList ++ q.2) r.2))
theorem fet_spec {y pc : Nat} {e : Ent} (h : fet y pc = some e) : e ∈ kOf y ∧ e.1 = pc := by
  unfold fet at h
  exact ⟨List.mem_of_find?_eq_some h, by simpa using List.find?_some h⟩
theorem szH_set {h : AHp} {i : Nat} {e0 e : AE} (hi : h[i]? = some e0) (hs : szE e = szE e0) : szH (h.set i e) = szH h := by
  unfold szH
  rw [List.map_set]
  congr 1
  apply List.ext_getElem?
  intro k
  rw [List.getElem?_set]
  by_cases hk : i = k
  · subst hk
    rw [if_pos rfl, List.length_map, if_pos (List.getElem?_eq_some_iff.mp hi).1, List.getElem?_map, hi, hs]; rfl
  · rw [if_neg hk]
theorem szH_push (h : AHp) (e : AE) : szH (h ++ [e]) = szH h + szE e := by
  simp [szH, List.sum_append]
