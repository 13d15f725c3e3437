/-! ## numbers as Int: typed values, a typed heap -/
abbrev qV : Type := Int ⊕ (Int ⊕ (Nat ⊕ (Nat ⊕ Unit)))
abbrev qi (x : Int) : qV := .inl x
abbrev ql (x : Int) : qV := .inr (.inl x)
abbrev qs (a : Nat) : qV := .inr (.inr (.inl a))
abbrev qr (a : Nat) : qV := .inr (.inr (.inr (.inl a)))
abbrev qx : qV := .inr (.inr (.inr (.inr ())))
abbrev qL : Type := List (Option qV)
abbrev qT : Type := (Nat → Nat × Int) × ((Nat → Int → Nat) × (Nat × Nat))
abbrev qD : Type := Nat → Int → Int
def qc : qV → Value
  | .inl x => .int (Int32.ofInt x)
  | .inr (.inl x) => .long (Int64.ofInt x)
  | .inr (.inr (.inl a)) => .ref a
  | .inr (.inr (.inr (.inl a))) => if a = 0 then .null else .ref a
  | .inr (.inr (.inr (.inr _))) => .retAddr 0
def qcl (L : qL) : pz_L := L.map fun v => v.map qc
def qF (ty : FieldType) (p : Nat) (d : Int) : Value := match ty with
  | .int => .int (Int32.ofInt d)
  | .boolean => .int (Int32.ofInt d)
  | .long => .long (Int64.ofInt d)
  | _ => if p = 0 then .null else .ref p
def qE (T : Nat → Nat × Int) (P : Nat → Int → Nat) (D : qD) (a : Nat) : pz_E :=
  if (T a).1 = 10 then .inl ((T a).2.toNat, fun i => Int32.ofInt (D a i))
  else if (T a).1 = 11 then .inr (.inl ((T a).2.toNat, fun i => if P a i = 0 then none else some (P a i)))
  else if (T a).1 = 12 then .inl (0, fun _ => 0)
  else .inr (.inr ((T a).1, (List.range (px_N (T a).1)).map fun b => qF (px_ty (T a).1 b) (P a b) (D a b)))
def qH (t : qT) (D : qD) : pz_H := (fun a => qE t.1 t.2.1 D a, t.2.2)
/-! static cells: what the law makes first lies at fixed places -/
def qST : List (Nat × Int) := [(8, 0), (4, 0), (10, 100), (2, 0), (11, 30), (2, 0), (11, 30), (7, 0), (10, 6), (10, 6), (10, 6), (7, 0), (10, 6), (10, 6), (10, 6), (3, 0), (0, 0), (10, 180), (10, 72), (10, 3), (10, 45), (10, 3), (10, 9), (10, 4), (10, 8), (10, 8), (10, 48), (10, 24), (10, 16), (10, 9), (10, 64), (10, 6), (10, 64), (10, 32)]
def qsT (a : Nat) : Nat × Int := qST.getD a (12, 0)
def qSP : List (Nat × List (Nat × Nat)) := [(0, [(0, 1), (1, 3), (2, 5), (3, 7), (4, 11)]), (1, [(0, 2)]), (3, [(0, 4)]), (5, [(0, 6)]), (7, [(0, 8), (1, 9), (2, 10)]), (11, [(0, 12), (1, 13), (2, 14)])] 
def qsP (a b : Nat) : Option Nat := match qSP.lookup a with
  | some l => l.lookup b
  | none => none
def qSt (t : qT) : Prop := 34 ≤ t.2.2.1 ∧ (∀ a, (t.1 a).1 ≠ 12 → a < t.2.2.1) ∧ (∀ a, a < 34 → t.1 a = qsT a) ∧ (∀ a b v, qsP a b = some v → t.2.1 a b = v) ∧ (∀ a, 0 ≤ (t.1 a).2 ∧ (t.1 a).2 < 2147483648)
def qEx (t t' : qT) : Prop := t.2.2.1 ≤ t'.2.2.1 ∧ t.2.2.2 ≤ t'.2.2.2 ∧ ∀ a, a < t.2.2.1 → t'.1 a = t.1 a
def chk (c : Prop) [Decidable c] (K : Prop) : Prop := if c then K else False
abbrev qR (x : Int) : Prop := -2147483648 ≤ x ∧ x < 2147483648
abbrev qR64 (x : Int) : Prop := -9223372036854775808 ≤ x ∧ x < 9223372036854775808
def up (D : qD) (a : Nat) (i x : Int) : qD := fun b j => if b = a ∧ j = i then x else D b j
def upr (D : qD) (a : Nat) (f : Int → Int) : qD := fun b => if b = a then f else D b
def upP (P : Nat → Int → Nat) (a : Nat) (i : Int) (x : Nat) : Nat → Int → Nat := fun b j => if b = a ∧ j = i then x else P b j
def nwP (P : Nat → Int → Nat) (a : Nat) : Nat → Int → Nat := fun b j => if b = a then 0 else P b j
def nwT (T : Nat → Nat × Int) (a : Nat) (k : Nat × Int) : Nat → Nat × Int := fun b => if b = a then k else T b
def qand (x y : Int) : Int := (Int32.ofInt x &&& Int32.ofInt y).toInt
def qor (x y : Int) : Int := (Int32.ofInt x ||| Int32.ofInt y).toInt
def qshl (x y : Int) : Int := (Int32.ofInt x <<< (Int32.ofInt y &&& 31)).toInt
def qshr (x y : Int) : Int := (Int32.ofInt x >>> (Int32.ofInt y &&& 31)).toInt
def qusr (x y : Int) : Int := ((Int32.ofInt x).toUInt32 >>> ((Int32.ofInt y).toUInt32 &&& Int32.toUInt32 31)).toInt32.toInt
def qcmp (x y : Int) : Int := if x < y then -1 else if x = y then 0 else 1
def qmax (x y : Int) : Int := if x < y then y else x
def qmin (x y : Int) : Int := if y < x then y else x
def qcat : qV → Nat
  | .inr (.inl _) => 2
  | _ => 1
def qsum (st : List qV) : Nat := (st.map qcat).sum
def qsl : List qV → qL
  | [] => []
  | v :: vs => if qcat v = 2 then some v :: none :: qsl vs else some v :: qsl vs
def qin (n : Nat) (vs : List qV) : qL := qsl vs ++ List.replicate (n - (qsl vs).length) none
def qcv (rt : Option FieldType) (x : Int) : List qV := match rt with
  | none => []
  | some .int => [qi x]
  | some .boolean => [qi x]
  | some .long => [ql x]
  | _ => [qr x.toNat]
def qcR (rt : Option FieldType) (x : Int) : Option Value := ((qcv rt x).head?).map qc
def wp (S : (Nat → Int32) × Nat) (m pc : Nat) (L : qL) (st : List qV) (t : qT) (D : qD) (Q : Int → qT → qD → Prop) : Prop :=
  qSt t → ∃ (N : Nat) (x : Int) (t' : qT) (D' : qD), pz_run S N m pc (qcl L) (st.map qc) (qH t D) = some (qcR (px_rt m) x, qH t' D') ∧ qSt t' ∧ qEx t t' ∧ Q x t' D'
def qget (L : qL) (i : Nat) : Option qV := match L[i]? with
  | some (some v) => some v
  | _ => none
def qc2 (L : qL) (i : Nat) : Bool := match i with
  | 0 => false
  | k + 1 => match qget L k with
    | some v => qcat v == 2
    | none => false
abbrev qK : Type := Nat → qL → List qV → qT → qD → Prop
section QZ0
variable (pc : Nat) (L : qL) (st : List qV) (t : qT) (D : qD) (K : qK) (Q : Int → qT → qD → Prop)
def q_ild (i pc' : Nat) : Prop := match qget L i with
  | some (.inl x) => K pc' L (qi x :: st) t D
  | _ => False
def q_lld (i pc' : Nat) : Prop := match qget L i with
  | some (.inr (.inl x)) => K pc' L (ql x :: st) t D
  | _ => False
def q_ald (i pc' : Nat) : Prop := match qget L i with
  | some (.inr (.inr v)) => K pc' L (.inr (.inr v) :: st) t D
  | _ => False
def q_ist (i pc' : Nat) : Prop := match st with
  | .inl x :: r => chk (i < L.length ∧ qc2 L i = false) (K pc' (L.set i (some (qi x))) r t D)
  | _ => False
def q_lst (i pc' : Nat) : Prop := match st with
  | .inr (.inl x) :: r => chk (i + 1 < L.length ∧ qc2 L i = false) (K pc' ((L.set i (some (ql x))).set (i + 1) none) r t D)
  | _ => False
def q_ast (i pc' : Nat) : Prop := match st with
  | .inr (.inr (.inl a)) :: r => chk (i < L.length ∧ qc2 L i = false) (K pc' (L.set i (some (qs a))) r t D)
  | .inr (.inr (.inr (.inl a))) :: r => chk (i < L.length ∧ qc2 L i = false) (K pc' (L.set i (some (qr a))) r t D)
  | _ => False
def q_i2 (f : Int → Int → Int) : Prop := match st with
  | .inl y :: .inl x :: r => K (pc + 1) L (qi (f x y) :: r) t D
  | _ => False
def q_idv (f : Int → Int → Int) : Prop := match st with
  | .inl y :: .inl x :: r => chk (0 ≤ x ∧ x < 2147483648) (chk (0 < y ∧ y < 2147483648) (K (pc + 1) L (qi (f x y) :: r) t D))
  | _ => False
def q_l2 (f : Int → Int → Int) : Prop := match st with
  | .inr (.inl y) :: .inr (.inl x) :: r => K (pc + 1) L (ql (f x y) :: r) t D
  | _ => False
def q_ldv (f : Int → Int → Int) : Prop := match st with
  | .inr (.inl y) :: .inr (.inl x) :: r => chk (0 ≤ x ∧ x < 9223372036854775808) (chk (0 < y ∧ y < 9223372036854775808) (K (pc + 1) L (ql (f x y) :: r) t D))
  | _ => False
def q_lnd : Prop := match st with
  | .inr (.inl y) :: .inr (.inl x) :: r => chk (y = 2147483647) (K (pc + 1) L (ql (x % 2147483648) :: r) t D)
  | _ => False
def q_lcm : Prop := match st with
  | .inr (.inl y) :: .inr (.inl x) :: r => chk (x = y ∨ (qR64 x ∧ qR64 y)) (K (pc + 1) L (qi (qcmp x y) :: r) t D)
  | _ => False
def q_to (off : Int) (f : Nat → Prop) : Prop := match pz_tg pc off with
  | some p => f p
  | none => False
def q_br (c : Jvm.ClassFile.Cond) (x y : Int) (A B : Prop) : Prop := match c with
  | .eq => if x = y then A else B
  | .ne => if x = y then B else A
  | .lt => if x < y then A else B
  | .ge => if x < y then B else A
  | .gt => if y < x then A else B
  | .le => if y < x then B else A
def q_if (c : Jvm.ClassFile.Cond) (off : Int) : Prop := match st with
  | .inl x :: r => chk (qR x) (q_to pc off fun p => q_br c x 0 (K p L r t D) (K (pc + 3) L r t D))
  | _ => False
def q_ic (c : Jvm.ClassFile.Cond) (off : Int) : Prop := match st with
  | .inl y :: .inl x :: r => chk (qR x) (chk (qR y) (q_to pc off fun p => q_br c x y (K p L r t D) (K (pc + 3) L r t D)))
  | _ => False
def q_nn (off : Int) : Prop := match st with
  | .inr (.inr (.inl _)) :: r => q_to pc off fun p => K p L r t D
  | .inr (.inr (.inr (.inl a))) :: r => q_to pc off fun p => if a = 0 then K (pc + 3) L r t D else K p L r t D
  | _ => False
def q_lk (d : Int) (x : Int) (r : List qV) : List (Int × Int) → Prop
  | [] => q_to pc d fun p => K p L r t D
  | (a, o) :: l => if x = a then q_to pc o fun p => K p L r t D else q_lk d x r l
def q_lks (d : Int) (ps : List (Int × Int)) : Prop := match st with
  | .inl x :: r => chk (qR x) (chk ((ps.zip (ps.drop 1)).all (fun (a, next) => a.1 < next.1) = true) (q_lk pc L t D K d x r ps))
  | _ => False
def q_tb (d : Int) (x : Int) (r : List qV) : Int → List Int → Prop
  | _, [] => q_to pc d fun p => K p L r t D
  | i, o :: l => if x = i then q_to pc o fun p => K p L r t D else q_tb d x r (i + 1) l
def q_tbs (d lo hi : Int) (os : List Int) : Prop := match st with
  | .inl x :: r => chk (qR x) (chk (hi - lo + 1 = os.length) (q_tb pc L t D K d x r lo os))
  | _ => False
def q_iald (S : (Nat → Int32) × Nat) : Prop := match st with
  | .inl j :: .inr (.inr (.inl a)) :: r => chk ((qsT a).1 = 10) (chk (0 ≤ j ∧ j < (qsT a).2) (K (pc + 1) L (qi (D a j) :: r) t D))
  | .inl j :: .inr (.inr (.inr (.inl a))) :: r => chk ((t.1 a).1 = 10) (chk (0 ≤ j ∧ j < (t.1 a).2) (K (pc + 1) L (qi (D a j) :: r) t D))
  | .inl j :: .inr (.inr (.inr (.inr _))) :: r => chk (0 ≤ j ∧ j < S.2 ∧ j < 2147483648) (K (pc + 1) L (qi (S.1 j.toNat).toInt :: r) t D)
  | _ => False
def q_iast : Prop := match st with
  | .inl x :: .inl j :: .inr (.inr (.inl a)) :: r => chk ((qsT a).1 = 10) (chk (0 ≤ j ∧ j < (qsT a).2) (K (pc + 1) L r t (up D a j x)))
  | .inl x :: .inl j :: .inr (.inr (.inr (.inl a))) :: r => chk ((t.1 a).1 = 10) (chk (0 ≤ j ∧ j < (t.1 a).2) (K (pc + 1) L r t (up D a j x)))
  | _ => False
def q_aald : Prop := match st with
  | .inl j :: .inr (.inr (.inl a)) :: r => chk ((qsT a).1 = 11) (chk (0 ≤ j ∧ j < (qsT a).2) (K (pc + 1) L (qr (t.2.1 a j) :: r) t D))
  | .inl j :: .inr (.inr (.inr (.inl a))) :: r => chk ((t.1 a).1 = 11) (chk (0 ≤ j ∧ j < (t.1 a).2) (K (pc + 1) L (qr (t.2.1 a j) :: r) t D))
  | _ => False
def q_aast : Prop := match st with
  | .inr (.inr (.inr (.inl v))) :: .inl j :: .inr (.inr (.inl a)) :: r => chk ((qsT a).1 = 11) (chk (v = 0 ∨ (t.1 v).1 = 3) (chk (0 ≤ j ∧ j < (qsT a).2) (K (pc + 1) L r (t.1, upP t.2.1 a j v, t.2.2) D)))
  | _ => False
def q_alen (S : (Nat → Int32) × Nat) : Prop := match st with
  | .inr (.inr (.inl a)) :: r => chk ((qsT a).1 = 10) (K (pc + 1) L (qi (qsT a).2 :: r) t D)
  | .inr (.inr (.inr (.inl a))) :: r => chk ((t.1 a).1 = 10) (K (pc + 1) L (qi (t.1 a).2 :: r) t D)
  | .inr (.inr (.inr (.inr _))) :: r => K (pc + 1) L (qi S.2 :: r) t D
  | _ => False
def q_gf (a b : Nat) : Prop := match st with
  | .inr (.inr (.inl o)) :: r => chk ((qsT o).1 = a ∧ a < 10 ∧ b < px_N a) (match px_ty a b with
    | .int => K (pc + 3) L (qi (D o b) :: r) t D
    | .boolean => K (pc + 3) L (qi (D o b) :: r) t D
    | .long => K (pc + 3) L (ql (D o b) :: r) t D
    | _ => match qsP o b with
      | some v => chk (v ≠ 0) (K (pc + 3) L (qs v :: r) t D)
      | none => K (pc + 3) L (qr (t.2.1 o b) :: r) t D)
  | .inr (.inr (.inr (.inl o))) :: r => chk (a ≠ 8 ∧ a < 10 ∧ b < px_N a) (chk ((t.1 o).1 = a) (match px_ty a b with
    | .int => K (pc + 3) L (qi (D o b) :: r) t D
    | .boolean => K (pc + 3) L (qi (D o b) :: r) t D
    | .long => K (pc + 3) L (ql (D o b) :: r) t D
    | _ => K (pc + 3) L (qr (t.2.1 o b) :: r) t D))
  | _ => False
def q_pfv (a b o : Nat) (v : qV) (r : List qV) : Prop := match px_ty a b, v with
  | .int, .inl x => K (pc + 3) L r t (up D o b x)
  | .boolean, .inl x => chk (x = 0 ∨ x = 1) (K (pc + 3) L r t (up D o b x))
  | .long, .inr (.inl x) => K (pc + 3) L r t (up D o b x)
  | .object _, .inr (.inr (.inl v)) => chk (qsP o b = none ∧ v ≠ 0) (K (pc + 3) L r (t.1, upP t.2.1 o b v, t.2.2) D)
  | .object _, .inr (.inr (.inr (.inl v))) => chk (qsP o b = none) (K (pc + 3) L r (t.1, upP t.2.1 o b v, t.2.2) D)
  | .array _, .inr (.inr (.inr (.inl v))) => chk (qsP o b = none) (K (pc + 3) L r (t.1, upP t.2.1 o b v, t.2.2) D)
  | _, _ => False
def q_pf (a b : Nat) : Prop := match st with
  | v :: .inr (.inr (.inl o)) :: r => chk ((qsT o).1 = a ∧ a < 10 ∧ b < px_N a) (q_pfv pc L t D K a b o v r)
  | v :: .inr (.inr (.inr (.inl o))) :: r => chk (a ≠ 8 ∧ a < 10 ∧ b < px_N a) (chk ((t.1 o).1 = a) (q_pfv pc L t D K a b o v r))
  | _ => False
def q_new (a : Nat) : Prop := chk (a < 10) (K (pc + 3) L (qr t.2.2.1 :: st) (nwT t.1 t.2.2.1 (a, 0), nwP t.2.1 t.2.2.1, (t.2.2.1 + 1, t.2.2.2 + px_N a)) (upr D t.2.2.1 (fun _ => 0)))
def q_nwa : Prop := match st with
  | .inl x :: r => chk (0 ≤ x ∧ x ≤ 134217728) (K (pc + 2) L (qr t.2.2.1 :: r) (nwT t.1 t.2.2.1 (10, x), nwP t.2.1 t.2.2.1, (t.2.2.1 + 1, t.2.2.2 + x.toNat)) (upr D t.2.2.1 (fun _ => 0)))
  | _ => False
def q_cc : Prop := match st with
  | .inr (.inr (.inr (.inl a))) :: r => chk ((t.1 a).1 = 10) (K (pc + 3) L (qr a :: r) t D)
  | _ => False
def q_call (S : (Nat → Int32) × Nat) (a n : Nat) : Prop := chk (n ≤ st.length ∧ qsum (st.drop n) ≤ 8 ∧ (qsl (st.take n).reverse).length ≤ px_ml a)
  (wp S a 0 (qin (px_ml a) (st.take n).reverse) [] t D fun x t' D' => K (pc + 3) L (qcv (px_rt a) x ++ st.drop n) t' D')
def q_isp (S : (Nat → Int32) × Nat) (a b : Nat) : Prop := if a = 1000 then (match st with
    | .inr (.inr (.inl _)) :: r => chk (qsum r ≤ 8) (K (pc + 3) L r t D)
    | .inr (.inr (.inr (.inl o))) :: r => chk ((t.1 o).1 ≠ 8 ∧ qsum r ≤ 8) (K (pc + 3) L r t D)
    | _ => False)
  else match st.drop b with
    | .inr (.inr (.inl _)) :: _ => q_call pc L st t D K S a (b + 1)
    | .inr (.inr (.inr (.inl o))) :: _ => chk ((t.1 o).1 ≠ 8) (q_call pc L st t D K S a (b + 1))
    | _ => False
def q_ivi (S : (Nat → Int32) × Nat) (a b : Nat) : Prop := if a = 1002 then (match st with
    | .inr (.inr (.inr (.inl o))) :: r => chk (qsum r ≤ 8) (chk ((t.1 o).1 = 10) (K (pc + 3) L (qr t.2.2.1 :: r) (nwT t.1 t.2.2.1 (t.1 o), nwP t.2.1 t.2.2.1, (t.2.2.1 + 1, t.2.2.2 + (t.1 o).2.toNat)) (upr D t.2.2.1 (D o))))
    | _ => False)
  else match st.drop b with
    | .inr (.inr (.inl o)) :: _ => chk ((qsT o).1 = px_o a ∧ px_o a < 10) (q_call pc L st t D K S a (b + 1))
    | .inr (.inr (.inr (.inl o))) :: _ => chk (px_o a < 10 ∧ px_o a ≠ 8) (chk ((t.1 o).1 = px_o a) (q_call pc L st t D K S a (b + 1)))
    | _ => False
def q_cp (f g : Int → Int) (sp dp n : Int) : Int → Int := fun i => if dp ≤ i ∧ i < dp + n then f (sp + (i - dp)) else g i
def q_cpa (v : qV) (F : Nat → Int → Prop) : Prop := match v with
  | .inr (.inr (.inl a)) => chk ((qsT a).1 = 10) (F a (qsT a).2)
  | .inr (.inr (.inr (.inl a))) => chk ((t.1 a).1 = 10) (F a (t.1 a).2)
  | _ => False
def q_cpy : Prop := match st with
  | .inl n :: .inl dp :: d :: .inl sp :: e :: r => q_cpa t d fun d dn => q_cpa t e fun e en => chk (qsum r ≤ 8) (chk (0 ≤ sp ∧ 0 ≤ dp ∧ 0 ≤ n ∧ sp + n ≤ en ∧ dp + n ≤ dn) (K (pc + 3) L r t (upr D d (q_cp (D e) (D d) sp dp n))))
  | _ => False
def q_mx (f : Int → Int → Int) : Prop := match st with
  | .inl y :: .inl x :: r => chk (qsum r ≤ 8) (chk (qR x) (chk (qR y) (K (pc + 3) L (qi (f x y) :: r) t D)))
  | _ => False
def q_iss (S : (Nat → Int32) × Nat) (a b : Nat) : Prop :=
  if a = 1001 then q_cpy pc L st t D K
  else if a = 1003 then q_mx pc L st t D K qmax
  else if a = 1004 then q_mx pc L st t D K qmin
  else q_call pc L st t D K S a b
def q_ret (rt : Option FieldType) : Prop := match st, rt with
  | [.inl x], some .int => Q x t D
  | [.inl x], some .boolean => chk (x = 0 ∨ x = 1) (Q x t D)
  | _, _ => False
def qstep (S : (Nat → Int32) × Nat) (rt : Option FieldType) (k : px_K) : Prop := match k.1 with
  | .iconst n => K (pc + 1) L (qi n :: st) t D
  | .bipush n => chk (-128 ≤ n ∧ n < 128) (K (pc + 2) L (qi n :: st) t D)
  | .sipush n => chk (-32768 ≤ n ∧ n < 32768) (K (pc + 3) L (qi n :: st) t D)
  | .lconst n => K (pc + 1) L (ql (n : Nat) :: st) t D
  | .ldc _ => K (pc + 2) L (qi k.2.2.2.2 :: st) t D
  | .ldc_w _ => K (pc + 3) L (qi k.2.2.2.2 :: st) t D
  | .ldc2_w _ => K (pc + 3) L (ql k.2.2.2.2 :: st) t D
  | .aconst_null => K (pc + 1) L (qr 0 :: st) t D
  | .iload_n i => q_ild L st t D K i (pc + 1)
  | .iload i => q_ild L st t D K i (pc + 2)
  | .lload_n i => q_lld L st t D K i (pc + 1)
  | .lload i => q_lld L st t D K i (pc + 2)
  | .aload_n i => q_ald L st t D K i (pc + 1)
  | .aload i => q_ald L st t D K i (pc + 2)
  | .istore_n i => q_ist L st t D K i (pc + 1)
  | .istore i => q_ist L st t D K i (pc + 2)
  | .lstore_n i => q_lst L st t D K i (pc + 1)
  | .lstore i => q_lst L st t D K i (pc + 2)
  | .astore_n i => q_ast L st t D K i (pc + 1)
  | .astore i => q_ast L st t D K i (pc + 2)
  | .iinc i n => match qget L i with
    | some (.inl x) => chk (i < L.length ∧ qc2 L i = false) (K (pc + 3) (L.set i (some (qi (x + n)))) st t D)
    | _ => False
  | .iadd => q_i2 pc L st t D K (fun x y => x + y)
  | .isub => q_i2 pc L st t D K (fun x y => x - y)
  | .imul => q_i2 pc L st t D K (fun x y => x * y)
  | .iand => q_i2 pc L st t D K qand
  | .ior => q_i2 pc L st t D K qor
  | .ishl => q_i2 pc L st t D K qshl
  | .ishr => q_i2 pc L st t D K qshr
  | .iushr => q_i2 pc L st t D K qusr
  | .idiv => q_idv pc L st t D K (fun x y => x / y)
  | .irem => q_idv pc L st t D K (fun x y => x % y)
  | .ladd => q_l2 pc L st t D K (fun x y => x + y)
  | .lmul => q_l2 pc L st t D K (fun x y => x * y)
  | .land => q_lnd pc L st t D K
  | .ldiv => q_ldv pc L st t D K (fun x y => x / y)
  | .lrem => q_ldv pc L st t D K (fun x y => x % y)
  | .lcmp => q_lcm pc L st t D K
  | .i2l => match st with
    | .inl x :: r => chk (qR x) (K (pc + 1) L (ql x :: r) t D)
    | _ => False
  | .l2i => match st with
    | .inr (.inl x) :: r => K (pc + 1) L (qi x :: r) t D
    | _ => False
  | .dup => match st with
    | v :: r => chk (qcat v = 1) (K (pc + 1) L (v :: v :: r) t D)
    | _ => False
  | .dup2 => match st with
    | v :: w :: r => chk (qcat v = 1 ∧ qcat w = 1) (K (pc + 1) L (v :: w :: v :: w :: r) t D)
    | _ => False
  | .goto off => q_to pc off fun p => K p L st t D
  | .ifCond c off => q_if pc L st t D K c off
  | .if_icmp c off => q_ic pc L st t D K c off
  | .ifnonnull off => q_nn pc L st t D K off
  | .lookupswitch d ps => q_lks pc L st t D K d ps.toList
  | .tableswitch d lo hi offs => q_tbs pc L st t D K d lo hi offs.toList
  | .iaload => q_iald pc L st t D K S
  | .iastore => q_iast pc L st t D K
  | .aaload => q_aald pc L st t D K
  | .aastore => q_aast pc L st t D K
  | .arraylength => q_alen pc L st t D K S
  | .getfield _ => q_gf pc L st t D K k.2.2.1 k.2.2.2.1
  | .putfield _ => q_pf pc L st t D K k.2.2.1 k.2.2.2.1
  | .new _ => q_new pc L st t D K k.2.2.1
  | .newarray .int => q_nwa pc L st t D K
  | .checkcast _ => q_cc pc L st t D K
  | .invokespecial _ => q_isp pc L st t D K S k.2.2.1 k.2.2.2.1
  | .invokevirtual _ => q_ivi pc L st t D K S k.2.2.1 k.2.2.2.1
  | .invokestatic _ => q_iss pc L st t D K S k.2.2.1 k.2.2.2.1
  | .ireturn => q_ret st t D Q rt
  | .lreturn => match st, rt with
    | [.inr (.inl x)], some .long => Q x t D
    | _, _ => False
  | .areturn => match st, rt with
    | [.inr (.inr (.inr (.inl a)))], some (.object _) => Q a t D
    | _, _ => False
  | .return_ => match st, rt with
    | [], none => Q 0 t D
    | _, _ => False
  | _ => False
end QZ0
def vc (S : (Nat → Int32) × Nat) (m : Nat) (cuts : List Nat) (Q : Int → qT → qD → Prop) : Nat → Nat → qL → List qV → qT → qD → Prop
  | 0, pc, L, st, t, D => wp S m pc L st t D Q
  | n + 1, pc, L, st, t, D => match px_at m pc with
    | some k => qstep pc L st t D (fun pc' L' st' t' D' => if cuts.contains pc' = true then wp S m pc' L' st' t' D' Q else vc S m cuts Q n pc' L' st' t' D') Q S (px_rt m) k
    | none => False
