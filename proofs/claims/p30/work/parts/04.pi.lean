/-! ## a machine of its own over numbers: refs count from the heap's base on, the script is retAddr 0 -/
abbrev pz_E : Type := (Nat × (Nat → Int32)) ⊕ ((Nat × (Nat → Option Nat)) ⊕ (Nat × List Value))
abbrev pz_H : Type := (Nat → pz_E) × (Nat × Nat)
abbrev pz_L : Type := List (Option Value)
abbrev pz_X : Type := (Nat × (pz_L × (List Value × pz_H))) ⊕ (Option Value ⊕ (Nat × (List Value × List Value)))
def pz_go (pc : Nat) (L : pz_L) (st : List Value) (h : pz_H) : Option pz_X := some (.inl (pc, L, st, h))
def pz_up (h : pz_H) (i : Nat) (e : pz_E) : pz_H := (fun j => if j = i then e else h.1 j, h.2)
def pz_nw (h : pz_H) (e : pz_E) (n : Nat) : pz_H := (fun j => if j = h.2.1 then e else h.1 j, (h.2.1 + 1, h.2.2 + n))
def pz_get (L : pz_L) (i : Nat) : Option Value := match L[i]? with
  | some (some v) => some v
  | _ => none
def pz_c2 (L : pz_L) (i : Nat) : Bool := match i with
  | 0 => false
  | k + 1 => match pz_get L k with
    | some v => v.category == 2
    | none => false
def pz_s1 (L : pz_L) (i : Nat) (v : Value) : Option pz_L := match Nat.blt i L.length && !pz_c2 L i with
  | true => some (L.set i (some v))
  | false => none
def pz_s2 (L : pz_L) (i : Nat) (v : Value) : Option pz_L := match Nat.blt (i + 1) L.length && !pz_c2 L i with
  | true => some ((L.set i (some v)).set (i + 1) none)
  | false => none
def pz_obj (h : pz_H) (i c : Nat) : Option (List Value) := match h.1 i with
  | .inr (.inr (c', fs)) => if c' = c ∧ i < h.2.1 then some fs else none
  | _ => none
def pz_arr (h : pz_H) (i : Nat) : Option (Nat × (Nat → Int32)) := match h.1 i with
  | .inl q => if i < h.2.1 then some q else none
  | _ => none
def pz_arq (h : pz_H) (i : Nat) : Option (Nat × (Nat → Option Nat)) := match h.1 i with
  | .inr (.inl q) => if i < h.2.1 then some q else none
  | _ => none
def pz_fit (t : FieldType) (v : Value) : Bool := match t, v with
  | .int, .int _ => true
  | .boolean, .int x => x == 0 || x == 1
  | .long, .long _ => true
  | .object _, .null => true
  | .object _, .ref _ => true
  | .array _, .null => true
  | .array _, .ref _ => true
  | _, _ => false
def pz_tg (pc : Nat) (off : Int) : Option Nat := match (pc : Int) + off with
  | .ofNat t => some t
  | .negSucc _ => none
def pz_jp (pc : Nat) (off : Int) (L : pz_L) (st : List Value) (h : pz_H) : Option pz_X := (pz_tg pc off).bind fun t => pz_go t L st h
def pz_cc (c : Jvm.ClassFile.Cond) (x y : Int32) : Bool := match c with
  | .eq => decide (x = y)
  | .ne => decide (¬ x = y)
  | .lt => decide (x < y)
  | .ge => decide (y ≤ x)
  | .gt => decide (y < x)
  | .le => decide (x ≤ y)
def pz_br (b : Bool) (pc : Nat) (off : Int) (L : pz_L) (st : List Value) (h : pz_H) : Option pz_X := (pz_tg pc off).bind fun t => match b with
  | true => pz_go t L st h
  | false => pz_go (pc + 3) L st h
def pz_i2 (f : Int32 → Int32 → Option Int32) (pc : Nat) (L : pz_L) (st : List Value) (h : pz_H) : Option pz_X := match st with
  | .int y :: .int x :: r => (f x y).bind fun v => pz_go (pc + 1) L (.int v :: r) h
  | _ => none
def pz_l2 (f : Int64 → Int64 → Option Int64) (pc : Nat) (L : pz_L) (st : List Value) (h : pz_H) : Option pz_X := match st with
  | .long y :: .long x :: r => (f x y).bind fun v => pz_go (pc + 1) L (.long v :: r) h
  | _ => none
def pz_ild (i pc' : Nat) (L : pz_L) (st : List Value) (h : pz_H) : Option pz_X := match pz_get L i with
  | some (.int x) => pz_go pc' L (.int x :: st) h
  | _ => none
def pz_lld (i pc' : Nat) (L : pz_L) (st : List Value) (h : pz_H) : Option pz_X := match pz_get L i with
  | some (.long x) => pz_go pc' L (.long x :: st) h
  | _ => none
def pz_ald (i pc' : Nat) (L : pz_L) (st : List Value) (h : pz_H) : Option pz_X := match pz_get L i with
  | some (.ref x) => pz_go pc' L (.ref x :: st) h
  | some .null => pz_go pc' L (.null :: st) h
  | some (.retAddr q) => pz_go pc' L (.retAddr q :: st) h
  | _ => none
def pz_ist (i pc' : Nat) (L : pz_L) (st : List Value) (h : pz_H) : Option pz_X := match st with
  | .int x :: r => (pz_s1 L i (.int x)).bind fun L' => pz_go pc' L' r h
  | _ => none
def pz_lst (i pc' : Nat) (L : pz_L) (st : List Value) (h : pz_H) : Option pz_X := match st with
  | .long x :: r => (pz_s2 L i (.long x)).bind fun L' => pz_go pc' L' r h
  | _ => none
def pz_ast (i pc' : Nat) (L : pz_L) (st : List Value) (h : pz_H) : Option pz_X := match st with
  | .ref x :: r => (pz_s1 L i (.ref x)).bind fun L' => pz_go pc' L' r h
  | .null :: r => (pz_s1 L i .null).bind fun L' => pz_go pc' L' r h
  | _ => none
def pz_ixd (x : Int32) (n : Nat) : Bool := !(decide (x < 0)) && Nat.blt x.toNatClampNeg n
def pz_iald (S : (Nat → Int32) × Nat) (pc : Nat) (L : pz_L) (st : List Value) (h : pz_H) : Option pz_X := match st with
  | .int j :: .ref i :: r => (pz_arr h i).bind fun q => match pz_ixd j q.1 with
    | true => pz_go (pc + 1) L (.int (q.2 j.toNatClampNeg) :: r) h
    | false => none
  | .int j :: .retAddr _ :: r => match pz_ixd j S.2 with
    | true => pz_go (pc + 1) L (.int (S.1 j.toNatClampNeg) :: r) h
    | false => none
  | _ => none
def pz_iast (pc : Nat) (L : pz_L) (st : List Value) (h : pz_H) : Option pz_X := match st with
  | .int x :: .int j :: .ref i :: r => (pz_arr h i).bind fun q => match pz_ixd j q.1 with
    | true => pz_go (pc + 1) L r (pz_up h i (.inl (q.1, upd q.2 j.toNatClampNeg x)))
    | false => none
  | _ => none
def pz_aald (pc : Nat) (L : pz_L) (st : List Value) (h : pz_H) : Option pz_X := match st with
  | .int j :: .ref i :: r => (pz_arq h i).bind fun q => match pz_ixd j q.1 with
    | true => pz_go (pc + 1) L (va_rf (q.2 j.toNatClampNeg) :: r) h
    | false => none
  | _ => none
def pz_aast (pc : Nat) (L : pz_L) (st : List Value) (h : pz_H) : Option pz_X := match st with
  | .ref v :: .int j :: .ref i :: r => (pz_arq h i).bind fun q => match pz_ixd j q.1 && (pz_obj h v 3).isSome with
    | true => pz_go (pc + 1) L r (pz_up h i (.inr (.inl (q.1, va_up q.2 j.toNatClampNeg (some v)))))
    | false => none
  | .null :: .int j :: .ref i :: r => (pz_arq h i).bind fun q => match pz_ixd j q.1 with
    | true => pz_go (pc + 1) L r (pz_up h i (.inr (.inl (q.1, va_up q.2 j.toNatClampNeg none))))
    | false => none
  | _ => none
def pz_alen (S : (Nat → Int32) × Nat) (pc : Nat) (L : pz_L) (st : List Value) (h : pz_H) : Option pz_X := match st with
  | .ref i :: r => (pz_arr h i).bind fun q => pz_go (pc + 1) L (.int (Int32.ofNat q.1) :: r) h
  | .retAddr _ :: r => pz_go (pc + 1) L (.int (Int32.ofNat S.2) :: r) h
  | _ => none
def pz_getf (a b pc : Nat) (L : pz_L) (st : List Value) (h : pz_H) : Option pz_X := match st with
  | .ref i :: r => (pz_obj h i a).bind fun fs => (fs[b]?).bind fun v => pz_go (pc + 3) L (v :: r) h
  | _ => none
def pz_putf (a b pc : Nat) (L : pz_L) (st : List Value) (h : pz_H) : Option pz_X := match st with
  | v :: .ref i :: r => (pz_obj h i a).bind fun fs => match Nat.blt b fs.length && pz_fit (px_ty a b) v with
    | true => pz_go (pc + 3) L r (pz_up h i (.inr (.inr (a, fs.set b v))))
    | false => none
  | _ => none
def pz_newa (pc : Nat) (L : pz_L) (st : List Value) (h : pz_H) : Option pz_X := match st with
  | .int n :: r => match !(decide (n < 0)) && Nat.ble (n.toNatClampNeg * 4) 536870912 with
    | true => pz_go (pc + 2) L (.ref h.2.1 :: r) (pz_nw h (.inl (n.toNatClampNeg, fun _ => 0)) n.toNatClampNeg)
    | false => none
  | _ => none
def pz_newq (pc : Nat) (L : pz_L) (st : List Value) (h : pz_H) : Option pz_X := match st with
  | .int n :: r => match !(decide (n < 0)) && Nat.ble (n.toNatClampNeg * 4) 536870912 with
    | true => pz_go (pc + 3) L (.ref h.2.1 :: r) (pz_nw h (.inr (.inl (n.toNatClampNeg, fun _ => none))) n.toNatClampNeg)
    | false => none
  | _ => none
def pz_sum (st : List Value) : Nat := (st.map fun v => v.category).sum
def pz_sl : List Value → pz_L
  | [] => []
  | v :: vs => if v.category = 2 then some v :: none :: pz_sl vs else some v :: pz_sl vs
def pz_in (n : Nat) (vs : List Value) : pz_L := pz_sl vs ++ List.replicate (n - (pz_sl vs).length) none
def pz_call (a n : Nat) (st : List Value) : Option pz_X := match Nat.ble n st.length && Nat.ble (pz_sum (st.drop n)) 8 && Nat.ble (pz_sl (st.take n).reverse).length (px_ml a) with
  | true => some (.inr (.inr (a, (st.take n).reverse, st.drop n)))
  | false => none
def pz_isp (a b pc : Nat) (L : pz_L) (st : List Value) (h : pz_H) : Option pz_X := if a = 1000 then (match st with
    | .ref _ :: r => match Nat.ble (pz_sum r) 8 with
      | true => pz_go (pc + 3) L r h
      | false => none
    | _ => none)
  else match st.drop b with
    | .ref _ :: _ => pz_call a (b + 1) st
    | _ => none
def pz_ivi (a b pc : Nat) (L : pz_L) (st : List Value) (h : pz_H) : Option pz_X := if a = 1002 then (match st with
    | .ref i :: r => (pz_arr h i).bind fun q => match Nat.ble (pz_sum r) 8 with
      | true => pz_go (pc + 3) L (.ref h.2.1 :: r) (pz_nw h (.inl q) q.1)
      | false => none
    | _ => none)
  else match st.drop b with
    | .ref i :: _ => if (pz_obj h i (px_o a)).isSome = true then pz_call a (b + 1) st else none
    | _ => none
def pz_cpy (pc : Nat) (L : pz_L) (st : List Value) (h : pz_H) : Option pz_X := match st with
  | .int n :: .int dp :: .ref d :: .int sp :: .ref e :: r => (pz_arr h e).bind fun f => (pz_arr h d).bind fun g =>
    if ¬ sp < 0 ∧ ¬ dp < 0 ∧ ¬ n < 0 ∧ sp.toNatClampNeg + n.toNatClampNeg ≤ f.1 ∧ dp.toNatClampNeg + n.toNatClampNeg ≤ g.1 ∧ pz_sum r ≤ 8 then
      pz_go (pc + 3) L r (pz_up h d (.inl (g.1, va_cpy f.2 g.2 sp.toNatClampNeg dp.toNatClampNeg n.toNatClampNeg)))
    else none
  | _ => none
def pz_mx (f : Int32 → Int32 → Int32) (pc : Nat) (L : pz_L) (st : List Value) (h : pz_H) : Option pz_X := match st with
  | .int y :: .int x :: r => match Nat.ble (pz_sum r) 8 with
    | true => pz_go (pc + 3) L (.int (f x y) :: r) h
    | false => none
  | _ => none
def pz_ist_ (a b pc : Nat) (L : pz_L) (st : List Value) (h : pz_H) : Option pz_X :=
  if a = 1001 then pz_cpy pc L st h
  else if a = 1003 then pz_mx (fun x y => if x < y then y else x) pc L st h
  else if a = 1004 then pz_mx (fun x y => if y < x then y else x) pc L st h
  else pz_call a b st
def pz_ret (rt : Option FieldType) (v : Value) (st : List Value) : Option pz_X := match st, rt with
  | [], some t => if pz_fit t v = true then some (.inr (.inl (some v))) else none
  | _, _ => none
def pz_step (S : (Nat → Int32) × Nat) (rt : Option FieldType) (k : px_K) (pc : Nat) (L : pz_L) (st : List Value) (h : pz_H) : Option pz_X := match k.1 with
  | .iconst n => pz_go (pc + 1) L (.int (Int32.ofInt n) :: st) h
  | .bipush n => pz_go (pc + 2) L (.int (Int8.ofInt n).toInt32 :: st) h
  | .sipush n => pz_go (pc + 3) L (.int (Int16.ofInt n).toInt32 :: st) h
  | .lconst n => pz_go (pc + 1) L (.long (Int64.ofNat (n : Nat)) :: st) h
  | .ldc _ => pz_go (pc + 2) L (.int (Int32.ofInt k.2.2.2.2) :: st) h
  | .ldc_w _ => pz_go (pc + 3) L (.int (Int32.ofInt k.2.2.2.2) :: st) h
  | .ldc2_w _ => pz_go (pc + 3) L (.long (Int64.ofInt k.2.2.2.2) :: st) h
  | .aconst_null => pz_go (pc + 1) L (.null :: st) h
  | .iload_n i => pz_ild i (pc + 1) L st h
  | .iload i => pz_ild i (pc + 2) L st h
  | .lload_n i => pz_lld i (pc + 1) L st h
  | .lload i => pz_lld i (pc + 2) L st h
  | .aload_n i => pz_ald i (pc + 1) L st h
  | .aload i => pz_ald i (pc + 2) L st h
  | .istore_n i => pz_ist i (pc + 1) L st h
  | .istore i => pz_ist i (pc + 2) L st h
  | .lstore_n i => pz_lst i (pc + 1) L st h
  | .lstore i => pz_lst i (pc + 2) L st h
  | .astore_n i => pz_ast i (pc + 1) L st h
  | .astore i => pz_ast i (pc + 2) L st h
  | .iinc i n => match pz_get L i with
    | some (.int x) => (pz_s1 L i (.int (x + Int32.ofInt n))).bind fun L' => pz_go (pc + 3) L' st h
    | _ => none
  | .iadd => pz_i2 (fun x y => some (x + y)) pc L st h
  | .isub => pz_i2 (fun x y => some (x - y)) pc L st h
  | .imul => pz_i2 (fun x y => some (x * y)) pc L st h
  | .iand => pz_i2 (fun x y => some (x &&& y)) pc L st h
  | .ior => pz_i2 (fun x y => some (x ||| y)) pc L st h
  | .ishl => pz_i2 (fun x y => some (x <<< (y &&& 31))) pc L st h
  | .ishr => pz_i2 (fun x y => some (x >>> (y &&& 31))) pc L st h
  | .iushr => pz_i2 (fun x y => some (x.toUInt32 >>> (y.toUInt32 &&& Int32.toUInt32 31)).toInt32) pc L st h
  | .idiv => pz_i2 (fun x y => if y = 0 then none else some (x / y)) pc L st h
  | .irem => pz_i2 (fun x y => if y = 0 then none else some (x - x / y * y)) pc L st h
  | .ladd => pz_l2 (fun x y => some (x + y)) pc L st h
  | .lmul => pz_l2 (fun x y => some (x * y)) pc L st h
  | .land => pz_l2 (fun x y => some (x &&& y)) pc L st h
  | .ldiv => pz_l2 (fun x y => if y = 0 then none else some (x / y)) pc L st h
  | .lrem => pz_l2 (fun x y => if y = 0 then none else some (x - x / y * y)) pc L st h
  | .lcmp => match st with
    | .long y :: .long x :: r => pz_go (pc + 1) L (.int (lg_cmp x y) :: r) h
    | _ => none
  | .i2l => match st with
    | .int x :: r => pz_go (pc + 1) L (.long x.toInt64 :: r) h
    | _ => none
  | .l2i => match st with
    | .long x :: r => pz_go (pc + 1) L (.int x.toInt32 :: r) h
    | _ => none
  | .dup => match st with
    | v :: r => if v.category = 1 then pz_go (pc + 1) L (v :: v :: r) h else none
    | _ => none
  | .dup2 => match st with
    | v :: w :: r => if v.category = 1 ∧ w.category = 1 then pz_go (pc + 1) L (v :: w :: v :: w :: r) h else none
    | _ => none
  | .goto off => pz_jp pc off L st h
  | .ifCond c off => match st with
    | .int x :: r => pz_br (pz_cc c x 0) pc off L r h
    | _ => none
  | .if_icmp c off => match st with
    | .int y :: .int x :: r => pz_br (pz_cc c x y) pc off L r h
    | _ => none
  | .ifnonnull off => match st with
    | .ref _ :: r => pz_jp pc off L r h
    | .null :: r => pz_go (pc + 3) L r h
    | _ => none
  | .lookupswitch d ps => match st with
    | .int x :: r => if (ps.toList.zip (ps.toList.drop 1)).all (fun (a, next) => a.1 < next.1) = true then pz_jp pc (Op.lookupswitch.offset ps.toList d x.toInt) L r h else none
    | _ => none
  | .tableswitch d lo hi offs => match st with
    | .int x :: r => if x.toInt < lo ∨ hi < x.toInt then pz_jp pc d L r h else (offs[(x.toInt - lo).toNat]?).bind fun o => pz_jp pc o L r h
    | _ => none
  | .iaload => pz_iald S pc L st h
  | .iastore => pz_iast pc L st h
  | .aaload => pz_aald pc L st h
  | .aastore => pz_aast pc L st h
  | .arraylength => pz_alen S pc L st h
  | .getfield _ => pz_getf k.2.2.1 k.2.2.2.1 pc L st h
  | .putfield _ => pz_putf k.2.2.1 k.2.2.2.1 pc L st h
  | .new _ => pz_go (pc + 3) L (.ref h.2.1 :: st) (pz_nw h (.inr (.inr (k.2.2.1, px_df k.2.2.1))) (px_N k.2.2.1))
  | .newarray .int => pz_newa pc L st h
  | .anewarray _ => pz_newq pc L st h
  | .checkcast _ => match st with
    | .ref i :: r => (pz_arr h i).bind fun _ => pz_go (pc + 3) L (.ref i :: r) h
    | _ => none
  | .invokespecial _ => pz_isp k.2.2.1 k.2.2.2.1 pc L st h
  | .invokevirtual _ => pz_ivi k.2.2.1 k.2.2.2.1 pc L st h
  | .invokestatic _ => pz_ist_ k.2.2.1 k.2.2.2.1 pc L st h
  | .ireturn => match st with
    | .int v :: r => pz_ret rt (.int v) r
    | _ => none
  | .lreturn => match st with
    | .long v :: r => pz_ret rt (.long v) r
    | _ => none
  | .areturn => match st with
    | .ref v :: r => pz_ret rt (.ref v) r
    | .null :: r => pz_ret rt .null r
    | _ => none
  | .return_ => match st, rt with
    | [], none => some (.inr (.inl none))
    | _, _ => none
  | _ => none
def pz_run (S : (Nat → Int32) × Nat) : Nat → Nat → Nat → pz_L → List Value → pz_H → Option (Option Value × pz_H)
  | 0, _, _, _, _, _ => none
  | n + 1, m, pc, L, st, h => match px_at m pc with
    | none => none
    | some k => match pz_step S (px_rt m) k pc L st h with
      | none => none
      | some (.inl q) => pz_run S n m q.1 q.2.1 q.2.2.1 q.2.2.2
      | some (.inr (.inl v)) => some (v, h)
      | some (.inr (.inr q)) => match pz_run S n q.1 0 (pz_in (px_ml q.1) q.2.1) [] h with
        | none => none
        | some u => pz_run S n m (pc + 3) L (u.1.toList ++ q.2.2) u.2
def pz_ln (k : px_K) : Bool := match k.1 with
  | .ldc _ | .bipush _ | .iload _ | .lload _ | .aload _ | .istore _ | .lstore _ | .astore _ | .newarray _ => k.2.1 == 2
  | .sipush _ | .ldc_w _ | .ldc2_w _ | .iinc _ _ | .goto _ | .ifCond _ _ | .if_icmp _ _ | .ifnonnull _ | .getfield _ | .putfield _ | .new _ | .anewarray _ | .checkcast _ | .invokespecial _ | .invokevirtual _ | .invokestatic _ => k.2.1 == 3
  | .lookupswitch _ _ | .tableswitch _ _ _ _ => true
  | _ => k.2.1 == 1
set_option maxRecDepth 100000 in
theorem pz_ln_k : ((List.range px_tabs.length).all fun m => (px_tab m).all fun q => pz_ln q.2) = true := by decide +kernel
