def z_find : List zE → Nat → Option zE
  | [], _ => none
  | e :: l, pc => if e.1 = pc then some e else z_find l pc
def z_i {α : Type} (s : List Value) (k : Int32 → List Value → Option α) : Option α := match s with
  | .int x :: r => k x r
  | _ => none
def z_l {α : Type} (s : List Value) (k : Int64 → List Value → Option α) : Option α := match s with
  | .long x :: r => k x r
  | _ => none
def z_r {α : Type} (s : List Value) (k : Nat → List Value → Option α) : Option α := match s with
  | .ref x :: r => k x r
  | _ => none
def z_v {α : Type} (s : List Value) (k : Value → List Value → Option α) : Option α := match s with
  | .int x :: r => k (.int x) r
  | .ref x :: r => k (.ref x) r
  | _ => none
def z_rv (r : Option Nat) : Value := match r with
  | none => .null
  | some a => .ref a
def z_ld {α : Type} (loc : List (Option Value)) (i : Nat) (k : Value → Option α) : Option α := match z_at loc i with
  | some (some v) => k v
  | _ => none
def z_ldi {α : Type} (loc : List (Option Value)) (i : Nat) (k : Int32 → Option α) : Option α := match z_at loc i with
  | some (some (.int v)) => k v
  | _ => none
def z_ldl {α : Type} (loc : List (Option Value)) (i : Nat) (k : Int64 → Option α) : Option α := match z_at loc i with
  | some (some (.long v)) => k v
  | _ => none
def z_ldr {α : Type} (loc : List (Option Value)) (i : Nat) (k : Nat → Option α) : Option α := match z_at loc i with
  | some (some (.ref v)) => k v
  | _ => none
/-- may the place i be stored to (no long stands just before it)? -/
def z_free (loc : List (Option Value)) (i : Nat) : Bool := match i with
  | 0 => true
  | j + 1 => match z_at loc j with
    | some (some (.long _)) => false
    | some (some (.double _)) => false
    | _ => true
def z_sto {α : Type} (loc : List (Option Value)) (i : Nat) (v : Value) (k : List (Option Value) → Option α) : Option α :=
  if i < loc.length ∧ z_free loc i = true then k (loc.set i (some v)) else none
/-- the shape at a place: an object, its number; ints; booleans; references -/
def z_obj {α : Type} (sh : List zS) (p ci : Nat) (k : List (Option Nat) → Option α) : Option α := match z_at sh p with
  | some (0, n, rs) => if n = ci then k rs else none
  | _ => none
def z_ints {α : Type} (sh : List zS) (p : Nat) (k : Nat → Option α) : Option α := match z_at sh p with
  | some (1, n, _) => k n
  | _ => none
def z_bools {α : Type} (sh : List zS) (p : Nat) (k : Nat → Option α) : Option α := match z_at sh p with
  | some (2, n, _) => k n
  | _ => none
def z_refs {α : Type} (sh : List zS) (p : Nat) (k : Nat → List (Option Nat) → Option α) : Option α := match z_at sh p with
  | some (3, n, rs) => k n rs
  | _ => none
def z_in (i : Int32) (n : Nat) : Bool := !(decide (i < 0) || decide (n ≤ i.toNatClampNeg))
/-- all references lie below n -/
def z_lo (n : Nat) (v : Value) : Bool := match v with
  | .ref p => decide (p < n) || decide (1000 ≤ p)
  | _ => true
def z_loO (n : Nat) (v : Option Value) : Bool := match v with
  | some w => z_lo n w
  | none => true
def z_loN (n : Nat) (v : Option Nat) : Bool := match v with
  | some w => decide (w < n)
  | none => true
def z_all (n : Nat) (loc : List (Option Value)) (stk : List Value) : Bool := loc.all (z_loO n) && stk.all (z_lo n)
def z_allS (n : Nat) (sh : List zS) : Bool := sh.all (fun q => q.2.2.all (z_loN n))
def z_none (n : Nat) : List (Option Nat) := List.replicate n none
def z_cmp (i : Instr) (a b : Int32) : Bool := match i with
  | .if_icmp .eq _ => decide (a = b)
  | .if_icmp .ne _ => !decide (a = b)
  | .if_icmp .lt _ => decide (a < b)
  | .if_icmp .ge _ => decide (b ≤ a)
  | .if_icmp .gt _ => decide (b < a)
  | .if_icmp .le _ => decide (a ≤ b)
  | .ifCond .eq _ => decide (a = b)
  | .ifCond .ne _ => !decide (a = b)
  | .ifCond .lt _ => decide (a < b)
  | .ifCond .ge _ => decide (b ≤ a)
  | .ifCond .gt _ => decide (b < a)
  | .ifCond .le _ => decide (a ≤ b)
  | _ => false
def z_sw (pc : Nat) (x : Int32) (d lo hi : Int) (o : Array Int) : Option Nat :=
  if x.toInt < lo ∨ hi < x.toInt then (if 0 ≤ (pc : Int) + d then some ((pc : Int) + d).toNat else none)
  else match o[(x.toInt - lo).toNat]? with
    | some k => if 0 ≤ (pc : Int) + k then some ((pc : Int) + k).toNat else none
    | none => none
section ZStep
variable {μ : Type} (gt : μ → Nat → Nat → Int32) (st : μ → Nat → Nat → Int32 → μ) (nw : μ → Nat → μ) (cp : μ → Nat → Nat → Nat → Nat → Nat → μ)
def z_getf (x y : Nat) (nx : Nat) (loc : List (Option Value)) (stk : List Value) (sh : List zS) (m : μ) (kc ks : Nat) : Option (zT μ) :=
  z_r stk fun p r => z_obj sh p x fun rs => match z_at zCT x with
    | none => none
    | some kd => match z_at kd y with
      | none => none
      | some q => if q < 2 then some (nx, loc, .int (gt m p y) :: r, sh, m, kc, ks) else match z_at rs y with
        | none => none
        | some v => some (nx, loc, z_rv v :: r, sh, m, kc, ks)
def z_putf (x y : Nat) (nx : Nat) (loc : List (Option Value)) (stk : List Value) (sh : List zS) (m : μ) (kc ks : Nat) : Option (zT μ) :=
  match z_at zCT x with
    | none => none
    | some kd => match z_at kd y with
      | none => none
      | some 0 => z_i stk fun v r => z_r r fun p r => z_obj sh p x fun _ => some (nx, loc, r, sh, st m p y v, kc, ks)
      | some 1 => z_i stk fun v r => z_r r fun p r => z_obj sh p x fun _ => if v = 0 ∨ v = 1 then some (nx, loc, r, sh, st m p y v, kc, ks) else none
      | some _ => z_r stk fun v r => z_r r fun p r => z_obj sh p x fun rs => if y < rs.length then some (nx, loc, r, sh.set p (0, x, rs.set y (some v)), m, kc, ks) else none
def z_new (mc ms : Nat) (x : Nat) (nx : Nat) (loc : List (Option Value)) (stk : List Value) (sh : List zS) (m : μ) (kc ks : Nat) : Option (zT μ) :=
  match z_at zCT x with
    | none => none
    | some kd => if z_all sh.length loc stk && z_allS sh.length sh && decide (sh.length < 1000) && decide (kc + 1 ≤ mc) && decide (ks + kd.length ≤ ms) then some (nx, loc, .ref sh.length :: stk, sh ++ [(0, x, z_none kd.length)], nw m sh.length, kc + 1, ks + kd.length) else none
def z_newa (mc ms : Nat) (kind : Nat) (nx : Nat) (loc : List (Option Value)) (stk : List Value) (sh : List zS) (m : μ) (kc ks : Nat) : Option (zT μ) :=
  z_i stk fun n r => if z_all sh.length loc r && z_allS sh.length sh && decide (sh.length < 1000) && !decide (n < 0) && decide (n.toNatClampNeg ≤ 1000000) && decide (kc + 1 ≤ mc) && decide (ks + n.toNatClampNeg ≤ ms) then
    some (nx, loc, .ref sh.length :: r, sh ++ [(kind, n.toNatClampNeg, if kind = 3 then z_none n.toNatClampNeg else [])], nw m sh.length, kc + 1, ks + n.toNatClampNeg) else none
def z_copy (nx : Nat) (loc : List (Option Value)) (stk : List Value) (sh : List zS) (m : μ) (kc ks : Nat) : Option (zT μ) :=
  z_i stk fun n r => z_i r fun dp r => z_r r fun b r => z_i r fun sp r => z_r r fun a r => z_ints sh a fun n0 => z_ints sh b fun n1 =>
    if 0 ≤ sp ∧ 0 ≤ dp ∧ 0 ≤ n ∧ sp.toNatClampNeg + n.toNatClampNeg ≤ n0 ∧ dp.toNatClampNeg + n.toNatClampNeg ≤ n1 ∧ (r.map fun v => v.category).sum ≤ 8 then
      some (nx, loc, r, sh, cp m a sp.toNatClampNeg b dp.toNatClampNeg n.toNatClampNeg, kc, ks) else none
def z_step (mc ms : Nat) (scr : Option (Nat × (Nat → Int32))) (E : zE) (loc : List (Option Value)) (stk : List Value) (sh : List zS) (m : μ) (kc ks : Nat) : Option (zT μ) :=
  match E.2.1 with
  | .iconst n => some (E.1 + 1, loc, .int (Int32.ofInt n) :: stk, sh, m, kc, ks)
  | .bipush n => some (E.1 + 2, loc, .int (Int8.ofInt n).toInt32 :: stk, sh, m, kc, ks)
  | .sipush n => some (E.1 + 3, loc, .int (Int16.ofInt n).toInt32 :: stk, sh, m, kc, ks)
  | .ldc2_w _ => some (E.1 + 3, loc, .long (Int64.ofNat E.2.2.1) :: stk, sh, m, kc, ks)
  | .iload i => z_ldi loc i fun v => some (E.1 + 2, loc, .int v :: stk, sh, m, kc, ks)
  | .iload_n i => z_ldi loc i.val fun v => some (E.1 + 1, loc, .int v :: stk, sh, m, kc, ks)
  | .lload i => z_ldl loc i fun v => some (E.1 + 2, loc, .long v :: stk, sh, m, kc, ks)
  | .lload_n i => z_ldl loc i.val fun v => some (E.1 + 1, loc, .long v :: stk, sh, m, kc, ks)
  | .aload i => z_ldr loc i fun v => some (E.1 + 2, loc, .ref v :: stk, sh, m, kc, ks)
  | .aload_n i => z_ldr loc i.val fun v => some (E.1 + 1, loc, .ref v :: stk, sh, m, kc, ks)
  | .istore i => z_i stk fun v r => z_sto loc i (.int v) fun loc' => some (E.1 + 2, loc', r, sh, m, kc, ks)
  | .istore_n i => z_i stk fun v r => z_sto loc i.val (.int v) fun loc' => some (E.1 + 1, loc', r, sh, m, kc, ks)
  | .astore i => z_r stk fun v r => z_sto loc i (.ref v) fun loc' => some (E.1 + 2, loc', r, sh, m, kc, ks)
  | .astore_n i => z_r stk fun v r => z_sto loc i.val (.ref v) fun loc' => some (E.1 + 1, loc', r, sh, m, kc, ks)
  | .iinc i n => z_ldi loc i fun v => z_sto loc i (.int (v + Int32.ofInt n)) fun loc' => some (E.1 + 3, loc', stk, sh, m, kc, ks)
  | .iadd => z_i stk fun y r => z_i r fun x r => some (E.1 + 1, loc, .int (x + y) :: r, sh, m, kc, ks)
  | .isub => z_i stk fun y r => z_i r fun x r => some (E.1 + 1, loc, .int (x - y) :: r, sh, m, kc, ks)
  | .imul => z_i stk fun y r => z_i r fun x r => some (E.1 + 1, loc, .int (x * y) :: r, sh, m, kc, ks)
  | .iand => z_i stk fun y r => z_i r fun x r => some (E.1 + 1, loc, .int (x &&& y) :: r, sh, m, kc, ks)
  | .ior => z_i stk fun y r => z_i r fun x r => some (E.1 + 1, loc, .int (x ||| y) :: r, sh, m, kc, ks)
  | .ixor => z_i stk fun y r => z_i r fun x r => some (E.1 + 1, loc, .int (x ^^^ y) :: r, sh, m, kc, ks)
  | .ishl => z_i stk fun y r => z_i r fun x r => some (E.1 + 1, loc, .int (x <<< (y &&& 31)) :: r, sh, m, kc, ks)
  | .ishr => z_i stk fun y r => z_i r fun x r => some (E.1 + 1, loc, .int (x >>> (y &&& 31)) :: r, sh, m, kc, ks)
  | .idiv => z_i stk fun y r => z_i r fun x r => if y = 0 then none else some (E.1 + 1, loc, .int (x / y) :: r, sh, m, kc, ks)
  | .irem => z_i stk fun y r => z_i r fun x r => if y = 0 then none else some (E.1 + 1, loc, .int (x - x / y * y) :: r, sh, m, kc, ks)
  | .land => z_l stk fun y r => z_l r fun x r => some (E.1 + 1, loc, .long (x &&& y) :: r, sh, m, kc, ks)
  | .lor => z_l stk fun y r => z_l r fun x r => some (E.1 + 1, loc, .long (x ||| y) :: r, sh, m, kc, ks)
  | .lshl => z_i stk fun y r => z_l r fun x r => some (E.1 + 1, loc, .long (x <<< (y.toInt64 &&& 63)) :: r, sh, m, kc, ks)
  | .lshr => z_i stk fun y r => z_l r fun x r => some (E.1 + 1, loc, .long (x >>> (y.toInt64 &&& 63)) :: r, sh, m, kc, ks)
  | .lushr => z_i stk fun y r => z_l r fun x r => some (E.1 + 1, loc, .long (x.toUInt64 >>> (y.toInt64.toUInt64 &&& Int64.toUInt64 63)).toInt64 :: r, sh, m, kc, ks)
  | .i2l => z_i stk fun x r => some (E.1 + 1, loc, .long x.toInt64 :: r, sh, m, kc, ks)
  | .l2i => z_l stk fun x r => some (E.1 + 1, loc, .int x.toInt32 :: r, sh, m, kc, ks)
  | .pop => z_v stk fun _ r => some (E.1 + 1, loc, r, sh, m, kc, ks)
  | .dup => z_v stk fun v r => some (E.1 + 1, loc, v :: v :: r, sh, m, kc, ks)
  | .dup2 => z_v stk fun v r => z_v r fun w r => some (E.1 + 1, loc, v :: w :: v :: w :: r, sh, m, kc, ks)
  | .goto _ => some (E.2.2.1, loc, stk, sh, m, kc, ks)
  | .if_icmp c o => z_i stk fun b r => z_i r fun a r => some (if z_cmp (.if_icmp c o) a b then E.2.2.1 else E.1 + 3, loc, r, sh, m, kc, ks)
  | .ifCond c o => z_i stk fun a r => some (if z_cmp (.ifCond c o) a 0 then E.2.2.1 else E.1 + 3, loc, r, sh, m, kc, ks)
  | .tableswitch d lo hi o => z_i stk fun x r => match z_sw E.1 x d lo hi o with
    | none => none
    | some t => some (t, loc, r, sh, m, kc, ks)
  | .getfield _ => z_getf gt E.2.2.1 E.2.2.2 (E.1 + 3) loc stk sh m kc ks
  | .putfield _ => z_putf st E.2.2.1 E.2.2.2 (E.1 + 3) loc stk sh m kc ks
  | .iaload => z_i stk fun i r => z_r r fun p r => if p = 1000000 then (match scr with
      | none => none
      | some q => if z_in i q.1 then some (E.1 + 1, loc, .int (q.2 i.toNatClampNeg) :: r, sh, m, kc, ks) else none)
    else z_ints sh p fun n => if z_in i n then some (E.1 + 1, loc, .int (gt m p i.toNatClampNeg) :: r, sh, m, kc, ks) else none
  | .baload => z_i stk fun i r => z_r r fun p r => z_bools sh p fun n => if z_in i n then some (E.1 + 1, loc, .int (gt m p i.toNatClampNeg) :: r, sh, m, kc, ks) else none
  | .aaload => z_i stk fun i r => z_r r fun p r => z_refs sh p fun n rs => if z_in i n then (match z_at rs i.toNatClampNeg with
      | some v => some (E.1 + 1, loc, z_rv v :: r, sh, m, kc, ks)
      | none => none) else none
  | .iastore => z_i stk fun x r => z_i r fun i r => z_r r fun p r => z_ints sh p fun n => if z_in i n then some (E.1 + 1, loc, r, sh, st m p i.toNatClampNeg x, kc, ks) else none
  | .bastore => z_i stk fun x r => z_i r fun i r => z_r r fun p r => z_bools sh p fun n => if z_in i n then some (E.1 + 1, loc, r, sh, st m p i.toNatClampNeg (vp_nar .boolean x), kc, ks) else none
  | .aastore => z_r stk fun v r => z_i r fun i r => z_r r fun p r => z_refs sh p fun n rs => if z_in i n then (match z_at sh v with
      | some (0, ci, _) => if z_cast ci = true ∧ i.toNatClampNeg < rs.length then some (E.1 + 1, loc, r, sh.set p (3, n, rs.set i.toNatClampNeg (some v)), m, kc, ks) else none
      | _ => none) else none
  | .arraylength => z_r stk fun p r => if p = 1000000 then (match scr with
      | none => none
      | some q => some (E.1 + 1, loc, .int (Int32.ofNat q.1) :: r, sh, m, kc, ks))
    else match z_at sh p with
      | some (0, _, _) => none
      | some (_, n, _) => some (E.1 + 1, loc, .int (Int32.ofNat n) :: r, sh, m, kc, ks)
      | none => none
  | .new _ => z_new nw mc ms E.2.2.1 (E.1 + 3) loc stk sh m kc ks
  | .newarray a => match a with
    | .int => z_newa nw mc ms 1 (E.1 + 2) loc stk sh m kc ks
    | .boolean => z_newa nw mc ms 2 (E.1 + 2) loc stk sh m kc ks
    | _ => none
  | .anewarray _ => z_newa nw mc ms 3 (E.1 + 3) loc stk sh m kc ks
  | .invokespecial _ => if E.2.2.1 = 9 then z_r stk fun _ r => if (r.map fun v => v.category).sum ≤ 8 then some (E.1 + 3, loc, r, sh, m, kc, ks) else none else none
  | .invokestatic _ => match E.2.2.1 with
    | 3 => z_copy cp (E.1 + 3) loc stk sh m kc ks
    | 4 => z_i stk fun y r => z_i r fun x r => if (r.map fun v => v.category).sum ≤ 8 then some (E.1 + 3, loc, .int (if x < y then y else x) :: r, sh, m, kc, ks) else none
    | 5 => z_i stk fun y r => z_i r fun x r => if (r.map fun v => v.category).sum ≤ 8 then some (E.1 + 3, loc, .int (if y < x then y else x) :: r, sh, m, kc, ks) else none
    | _ => none
  | _ => none
end ZStep
def z_sl : List Value → List (Option Value)
  | [] => []
  | v :: l => if v.category = 2 then some v :: none :: z_sl l else some v :: z_sl l
def z_ent (as : List Value) (n : Nat) : List (Option Value) := z_sl as ++ List.replicate (n - (z_sl as).length) none
def z_retOk (ret : Option FieldType) (v : Int32) : Bool := match ret with
  | some .int => true
  | some .boolean => decide (v = 0) || decide (v = 1)
  | _ => false
/-- which method a call goes to: 0 by its number, 1 by its number on an object of its own kind, 2 through an interface -/
noncomputable def z_tgt (E : zE) (stk : List Value) (sh : List zS) : Option (Nat × zP) := match z_at zPG E.2.2.2 with
  | none => none
  | some q => match E.2.2.1 with
    | 0 => some (E.2.2.2, q)
    | 1 => match z_at stk (z_na q - 1) with
      | some (.ref p) => match z_at sh p with
        | some (0, ci, _) => if ci = z_ci q then some (E.2.2.2, q) else none
        | _ => none
      | _ => none
    | 2 => match z_at stk (z_na q - 1) with
      | some (.ref p) => match z_at sh p with
        | some (0, ci, _) => match z_face E.2.2.2 ci with
          | some t => match z_at zPG t with
            | some q' => some (t, q')
            | none => none
          | none => none
        | _ => none
      | _ => none
    | _ => none
def z_ln (i : Instr) : Nat := match i with
  | .bipush _ => 2
  | .sipush _ => 3
  | .ldc2_w _ => 3
  | .iload _ => 2
  | .lload _ => 2
  | .aload _ => 2
  | .istore _ => 2
  | .astore _ => 2
  | .iinc _ _ => 3
  | .goto _ => 3
  | .if_icmp _ _ => 3
  | .ifCond _ _ => 3
  | .getfield _ => 3
  | .putfield _ => 3
  | .new _ => 3
  | .newarray _ => 2
  | .anewarray _ => 3
  | .invokevirtual _ => 3
  | .invokespecial _ => 3
  | .invokestatic _ => 3
  | .invokeinterface _ _ => 5
  | _ => 1
/-- 0 ireturn, 1 return, 2 a call, 3 anything else -/
def z_kd (i : Instr) (x : Nat) : Nat := match i with
  | .ireturn => 0
  | .return_ => 1
  | .invokevirtual _ => 2
  | .invokeinterface _ _ => 2
  | .invokespecial _ => if x < 3 then 2 else 3
  | .invokestatic _ => if x < 3 then 2 else 3
  | _ => 3
/-- a call's stack and room -/
def z_cOk (P T : zP) (stk : List Value) (kc ks : Nat) : Bool := decide (z_na T ≤ stk.length) && decide ((z_sl (stk.take (z_na T)).reverse).length ≤ z_mL T) && decide (((stk.drop (z_na T)).map fun v => v.category).sum ≤ 8) && decide (kc + z_mc T ≤ z_mc P) && decide (ks + z_ms T ≤ z_ms P) && decide (z_fb T + 1 ≤ z_fb P) && decide (19 + z_mL T + z_lb T ≤ z_lb P)
section ZExec
variable {μ : Type} (gt : μ → Nat → Nat → Int32) (st : μ → Nat → Nat → Int32 → μ) (nw : μ → Nat → μ) (cp : μ → Nat → Nat → Nat → Nat → Nat → μ)
abbrev zR (μ : Type) : Type := Option (Nat × (Nat → Int32)) → zP → Nat → List (Option Value) → List Value → List zS → μ → Nat → Nat → Option (Option Value × List zS × μ)
/-- one step: script, the method's row, pc, places, stack, shapes, memory, cells and slots made so far; ih: the machine with less fuel -/
noncomputable def z_F (ih : zR μ) : zR μ := fun scr P pc loc stk sh m kc ks => match z_find (z_cd P) pc with
    | none => none
    | some E => match z_kd E.2.1 E.2.2.1 with
      | 0 => z_i stk fun v r => if r = [] ∧ z_retOk (z_rt P) v = true then some (some (.int v), sh, m) else none
      | 1 => if stk = [] ∧ z_rt P = none then some (none, sh, m) else none
      | 2 => (match z_tgt E stk sh with
            | none => none
            | some T => if z_cOk P T.2 stk kc ks = true then
                (match ih none T.2 0 (z_ent (stk.take (z_na T.2)).reverse (z_mL T.2)) [] sh m 0 0 with
                | none => none
                | some q => if q.2.1.length = sh.length ∨ (sh.length < q.2.1.length ∧ z_all sh.length loc (stk.drop (z_na T.2)) = true) then
                    ih scr P (E.1 + z_ln E.2.1) loc (q.1.toList ++ stk.drop (z_na T.2)) q.2.1 q.2.2 (kc + z_mc T.2) (ks + z_ms T.2)
                  else none)
              else none)
      | _ => match z_step gt st nw cp (z_mc P) (z_ms P) scr E loc stk sh m kc ks with
          | none => none
          | some q => ih scr P q.1 q.2.1 q.2.2.1 q.2.2.2.1 q.2.2.2.2.1 q.2.2.2.2.2.1 q.2.2.2.2.2.2
noncomputable def z_ex (n : Nat) : zR μ := Nat.rec (motive := fun _ => zR μ) (fun _ _ _ _ _ _ _ _ _ => none) (fun _ ih => z_F gt st nw cp ih) n
theorem z_ex_0 (scr P pc loc stk sh) (m : μ) (kc ks) : z_ex gt st nw cp 0 scr P pc loc stk sh m kc ks = none := rfl
theorem z_ex_s (n scr P pc loc stk sh) (m : μ) (kc ks) : z_ex gt st nw cp (n + 1) scr P pc loc stk sh m kc ks = z_F gt st nw cp (z_ex gt st nw cp n) scr P pc loc stk sh m kc ks := rfl
end ZExec
