/-! blocks, written by wip/whole/mkblk.py: what each stretch of a method asks -/
/-! 138 X9_doBack -/
set_option maxRecDepth 100000 in
theorem b138_0 {S : (Nat → Int32) × Nat} {t : qT} {D : qD} {Q : Int → qT → qD → Prop} (h :
wp S 134 0 [some (qs 28), some (qi 0)] [] t D (fun x1 t1 D1 =>
  (wp S 138 8 [some (qs 28), some (qi x1), some (qi 0), none] [] t1 D1 Q))) : wp S 138 0 [some (qs 28), none, none, none] [] t D Q := vc_ok (cuts := [8]) 600 0 _ _ _ _ h
set_option maxRecDepth 100000 in
theorem b138_8 {S : (Nat → Int32) × Nat} {t : qT} {D : qD} {Q : Int → qT → qD → Prop} {l1 l2 : Int} {o3 : Option qV} (h :
chk (qR l2)
(if l2 < 4 then
  (chk (0 ≤ l1 ∧ l1 < 110)
    (chk (0 ≤ (l1 + 1) ∧ (l1 + 1) < 110)
      (chk (0 ≤ (((40 * (D 42 l1)) + (4 * (D 42 (l1 + 1)))) + l2) ∧ (((40 * (D 42 l1)) + (4 * (D 42 (l1 + 1)))) + l2) < 120)
        (chk (qR (D 34 (((40 * (D 42 l1)) + (4 * (D 42 (l1 + 1)))) + l2)))
          (if (D 34 (((40 * (D 42 l1)) + (4 * (D 42 (l1 + 1)))) + l2)) = (-1) then
            (chk (0 ≤ (9 + l2) ∧ (9 + l2) < 110)
              (chk (0 ≤ (9 + l2) ∧ (9 + l2) < 110)
                (wp S 138 8 [some (qs 28), some (qi l1), some (qi (l2 + 1)), some (qi (D 34 (((40 * (D 42 l1)) + (4 * (D 42 (l1 + 1)))) + l2)))] [] t (up D 42 (9 + l2) (D 42 (9 + l2))) Q)))
            else
            (chk (0 ≤ ((l1 + 2) + (D 34 (((40 * (D 42 l1)) + (4 * (D 42 (l1 + 1)))) + l2))) ∧ ((l1 + 2) + (D 34 (((40 * (D 42 l1)) + (4 * (D 42 (l1 + 1)))) + l2))) < 110)
              (chk (0 ≤ (9 + l2) ∧ (9 + l2) < 110)
                (wp S 138 8 [some (qs 28), some (qi l1), some (qi (l2 + 1)), some (qi (D 34 (((40 * (D 42 l1)) + (4 * (D 42 (l1 + 1)))) + l2)))] [] t (up D 42 (9 + l2) (D 42 ((l1 + 2) + (D 34 (((40 * (D 42 l1)) + (4 * (D 42 (l1 + 1)))) + l2))))) Q))))))))
  else
  (Q 0 t (up D 42 13 ((D 42 13) - 1))))) : wp S 138 8 [some (qs 28), some (qi l1), some (qi l2), o3] [] t D Q := vc_ok (cuts := [8]) 600 8 _ _ _ _ h
/-! 139 X9_call -/
set_option maxRecDepth 100000 in
theorem b139_0 {S : (Nat → Int32) × Nat} {t : qT} {D : qD} {Q : Int → qT → qD → Prop} {l1 : Int} (h :
wp S 129 0 [some (qs 28), some (qi l1)] [] t D (fun x1 t1 D1 =>
  (chk (qR x1)
    (if x1 = 0 then
      (Q (-101) t1 D1)
      else
      (wp S 133 0 [some (qs 28)] [] t1 D1 (fun x2 t2 D2 =>
          (chk (qR x2)
            (if x2 = 8 then
              (Q (-104) t2 D2)
              else
              (wp S 131 0 [some (qs 28), none] [] t2 D2 (fun _ t3 D3 =>
                  (wp S 136 0 [some (qs 28), some (qi l1), none, none] [] t3 D3 (fun _ t4 D4 =>
                      (wp S 133 0 [some (qs 28)] [] t4 D4 (fun x5 t5 D5 =>
                        (Q x5 t5 D5))))))))))))))) : wp S 139 0 [some (qs 28), some (qi l1)] [] t D Q := vc_ok (cuts := []) 600 0 _ _ _ _ h
/-! 140 X9_go -/
set_option maxRecDepth 100000 in
theorem b140_0 {S : (Nat → Int32) × Nat} {t : qT} {D : qD} {Q : Int → qT → qD → Prop} {l1 : Int} (h :
chk (qR l1)
(wp S 110 0 [some (ql l1), none, some (ql 1), none, some (ql 9), none] [] t D (fun x1 t1 D1 =>
    (chk (qR x1)
      (if x1 = 0 then
        (Q (-102) t1 D1)
        else
        (wp S 133 0 [some (qs 28)] [] t1 D1 (fun x2 t2 D2 =>
            (chk (qR x2)
              (if x2 = 0 then
                (Q (-103) t2 D2)
                else
                (wp S 134 0 [some (qs 28), some (qi 0)] [] t2 D2 (fun x3 t3 D3 =>
                    (chk (0 ≤ (x3 + 1) ∧ (x3 + 1) < 110)
                      (chk (qR ((D3 42 (x3 + 1)) + l1))
                        (if 9 < ((D3 42 (x3 + 1)) + l1) then
                        (Q (-103) t3 D3)
                        else
                        (wp S 131 0 [some (qs 28), none] [] t3 D3 (fun _ t4 D4 =>
                        (wp S 137 0 [some (qs 28), some (qi l1), none, none] [] t4 D4 (fun _ t5 D5 =>
                        (wp S 134 0 [some (qs 28), some (qi 0)] [] t5 D5 (fun x6 t6 D6 =>
                        (chk (0 ≤ (x6 + 1) ∧ (x6 + 1) < 110)
                        (Q (D6 42 (x6 + 1)) t6 D6)))))))))))))))))))))) : wp S 140 0 [some (qs 28), some (qi l1)] [] t D Q := vc_ok (cuts := []) 600 0 _ _ _ _ h
/-! 141 X9_set -/
set_option maxRecDepth 100000 in
theorem b141_0 {S : (Nat → Int32) × Nat} {t : qT} {D : qD} {Q : Int → qT → qD → Prop} {l1 l2 : Int} (h :
chk (qR l1)
(wp S 110 0 [some (ql l1), none, some (ql 0), none, some (ql 3), none] [] t D (fun x1 t1 D1 =>
    (chk (qR x1)
      (if x1 = 0 then
        (Q (-101) t1 D1)
        else
        (chk (qR l2)
          (wp S 110 0 [some (ql l2), none, some (ql 0), none, some (ql 999), none] [] t1 D1 (fun x2 t2 D2 =>
              (chk (qR x2)
                (if x2 = 0 then
                  (Q (-102) t2 D2)
                  else
                  (wp S 128 0 [some (qs 28)] [] t2 D2 (fun x3 t3 D3 =>
                      (chk (qR x3)
                        (if x3 = 0 then
                        (wp S 131 0 [some (qs 28), none] [] t3 D3 (fun _ t4 D4 =>
                        (chk (0 ≤ (9 + l1) ∧ (9 + l1) < 110)
                        (chk (0 ≤ (9 + l1) ∧ (9 + l1) < 110)
                        (Q (D4 42 (9 + l1)) t4 (up D4 42 (9 + l1) l2))))))
                        else
                        (Q (-103) t3 D3))))))))))))))) : wp S 141 0 [some (qs 28), some (qi l1), some (qi l2), none] [] t D Q := vc_ok (cuts := []) 600 0 _ _ _ _ h
/-! 142 X9_back -/
set_option maxRecDepth 100000 in
theorem b142_0 {S : (Nat → Int32) × Nat} {t : qT} {D : qD} {Q : Int → qT → qD → Prop} (h :
wp S 133 0 [some (qs 28)] [] t D (fun x1 t1 D1 =>
  (chk (qR x1)
    (if x1 = 0 then
      (Q (-103) t1 D1)
      else
      (wp S 131 0 [some (qs 28), none] [] t1 D1 (fun _ t2 D2 =>
          (wp S 138 0 [some (qs 28), none, none, none] [] t2 D2 (fun _ t3 D3 =>
              (wp S 133 0 [some (qs 28)] [] t3 D3 (fun x4 t4 D4 =>
                  (Q x4 t4 D4))))))))))) : wp S 142 0 [some (qs 28)] [] t D Q := vc_ok (cuts := []) 600 0 _ _ _ _ h
/-! 143 X9_isCatching -/
set_option maxRecDepth 100000 in
theorem b143_0 {S : (Nat → Int32) × Nat} {t : qT} {D : qD} {Q : Int → qT → qD → Prop} {l0 l1 l2 : Int} (h :
chk (qR l0)
(if l0 = 1 then
  (Q 1 t D)
  else
  (if l0 = 2 then
    (Q 0 t D)
    else
    (if l0 = 3 then
      (chk (qR l2)
        (chk (qR l1)
          (if l2 < l1 then
            (Q 0 t D)
            else
            (Q 1 t D))))
      else
      (chk (qR l2)
        (chk (qR l1)
          (if l2 = l1 then
            (Q 1 t D)
            else
            (Q 0 t D)))))))) : wp S 143 0 [some (qi l0), some (qi l1), some (qi l2)] [] t D Q := vc_ok (cuts := []) 600 0 _ _ _ _ h
/-! 144 X9_does -/
set_option maxRecDepth 100000 in
theorem b144_0 {S : (Nat → Int32) × Nat} {t : qT} {D : qD} {Q : Int → qT → qD → Prop} {l0 l1 l2 : Int} (h :
wp S 143 0 [some (qi l0), some (qi l1), some (qi l2)] [] t D (fun x1 t1 D1 =>
  (chk (qR x1)
    (if x1 = 0 then
      (chk (qR l0)
        (if l0 = 2 then
          (Q 2 t1 D1)
          else
          (chk (qR l0)
            (if l0 = 4 then
              (Q 2 t1 D1)
              else
              (Q 0 t1 D1)))))
      else
      (Q 1 t1 D1))))) : wp S 144 0 [some (qi l0), some (qi l1), some (qi l2)] [] t D Q := vc_ok (cuts := []) 600 0 _ _ _ _ h
/-! 145 X9_doesAt -/
set_option maxRecDepth 100000 in
theorem b145_0 {S : (Nat → Int32) × Nat} {t : qT} {D : qD} {Q : Int → qT → qD → Prop} {l1 l2 l3 l4 : Int} (h :
chk (qR l3)
(chk (0 ≤ (((15 * l1) + (5 * l2)) + 1) ∧ (((15 * l1) + (5 * l2)) + 1) < 45)
  (chk (qR (D 40 (((15 * l1) + (5 * l2)) + 1)))
    (chk (0 ≤ (((15 * l1) + (5 * l2)) + 2) ∧ (((15 * l1) + (5 * l2)) + 2) < 45)
      (chk (qR (D 40 (((15 * l1) + (5 * l2)) + 2)))
        (wp S 110 0 [some (ql l3), none, some (ql (D 40 (((15 * l1) + (5 * l2)) + 1))), none, some (ql (D 40 (((15 * l1) + (5 * l2)) + 2))), none] [] t D (fun x1 t1 D1 =>
            (chk (qR x1)
              (if x1 = 0 then
                (Q 0 t1 D1)
                else
                (chk (0 ≤ ((3 * l1) + l2) ∧ ((3 * l1) + l2) < 110)
                  (chk (0 ≤ (((15 * l1) + (5 * l2)) + 3) ∧ (((15 * l1) + (5 * l2)) + 3) < 45)
                    (wp S 144 0 [some (qi (D1 42 ((3 * l1) + l2))), some (qi (D1 40 (((15 * l1) + (5 * l2)) + 3))), some (qi l4)] [] t1 D1 (fun x2 t2 D2 =>
                        (Q x2 t2 D2)))))))))))))) : wp S 145 0 [some (qs 28), some (qi l1), some (qi l2), some (qi l3), some (qi l4), none] [] t D Q := vc_ok (cuts := []) 600 0 _ _ _ _ h
/-! 146 X9_layCatcher -/
set_option maxRecDepth 100000 in
theorem b146_0 {S : (Nat → Int32) × Nat} {t : qT} {D : qD} {Q : Int → qT → qD → Prop} {l1 : Int} (h :
wp S 146 17 [some (qs 28), some (qi l1), some (qi 0), none, none, none] [] t (up (up (up D 28 28 (-1)) 28 29 (-1)) 28 30 0) Q) : wp S 146 0 [some (qs 28), some (qi l1), none, none, none, none] [] t D Q := vc_ok (cuts := [17, 42]) 600 0 _ _ _ _ h
set_option maxRecDepth 100000 in
theorem b146_17 {S : (Nat → Int32) × Nat} {t : qT} {D : qD} {Q : Int → qT → qD → Prop} {l1 l2 : Int} {o3 o4 o5 : Option qV} (h :
wp S 133 0 [some (qs 28)] [] t D (fun x1 t1 D1 =>
  (chk (qR l2)
    (chk (qR x1)
      (if l2 < x1 then
        (chk (qR (D1 28 28))
          (if (D1 28 28) = (-1) then
            (wp S 134 0 [some (qs 28), some (qi l2)] [] t1 D1 (fun x2 t2 D2 =>
                (wp S 146 42 [some (qs 28), some (qi l1), some (qi l2), some (qi x2), some (qi 0), o5] [] t2 D2 Q)))
            else
            (Q 0 t1 D1)))
        else
        (Q 0 t1 D1)))))) : wp S 146 17 [some (qs 28), some (qi l1), some (qi l2), o3, o4, o5] [] t D Q := vc_ok (cuts := [17, 42]) 600 17 _ _ _ _ h
set_option maxRecDepth 100000 in
theorem b146_42 {S : (Nat → Int32) × Nat} {t : qT} {D : qD} {Q : Int → qT → qD → Prop} {l1 l2 l3 l4 : Int} {o5 : Option qV} (h :
chk (0 ≤ l3 ∧ l3 < 110)
(chk (0 ≤ (D 42 l3) ∧ (D 42 l3) < 3)
  (chk (qR l4)
    (chk (qR (D 38 (D 42 l3)))
      (if l4 < (D 38 (D 42 l3)) then
        (chk (qR (D 28 28))
          (if (D 28 28) = (-1) then
            (chk (0 ≤ l3 ∧ l3 < 110)
              (chk (0 ≤ (l3 + 1) ∧ (l3 + 1) < 110)
                (wp S 145 0 [some (qs 28), some (qi (D 42 l3)), some (qi l4), some (qi (D 42 (l3 + 1))), some (qi l1), none] [] t D (fun x1 t1 D1 =>
                    (chk (qR x1)
                      (if x1 = 2 then
                        (chk (qR x1)
                        (if x1 = 1 then
                        (wp S 146 42 [some (qs 28), some (qi l1), some (qi l2), some (qi l3), some (qi (l4 + 1)), some (qi x1)] [] t1 (up (up (up D1 28 30 ((D1 28 30) + 1)) 28 28 l2) 28 29 l4) Q)
                        else
                        (wp S 146 42 [some (qs 28), some (qi l1), some (qi l2), some (qi l3), some (qi (l4 + 1)), some (qi x1)] [] t1 (up D1 28 30 ((D1 28 30) + 1)) Q)))
                        else
                        (chk (qR x1)
                        (if x1 = 1 then
                        (wp S 146 42 [some (qs 28), some (qi l1), some (qi l2), some (qi l3), some (qi (l4 + 1)), some (qi x1)] [] t1 (up (up (up D1 28 30 ((D1 28 30) + 0)) 28 28 l2) 28 29 l4) Q)
                        else
                        (wp S 146 42 [some (qs 28), some (qi l1), some (qi l2), some (qi l3), some (qi (l4 + 1)), some (qi x1)] [] t1 (up D1 28 30 ((D1 28 30) + 0)) Q)))))))))
            else
            (wp S 146 17 [some (qs 28), some (qi l1), some (qi (l2 + 1)), some (qi l3), some (qi l4), o5] [] t D Q)))
        else
        (wp S 146 17 [some (qs 28), some (qi l1), some (qi (l2 + 1)), some (qi l3), some (qi l4), o5] [] t D Q)))))) : wp S 146 42 [some (qs 28), some (qi l1), some (qi l2), some (qi l3), some (qi l4), o5] [] t D Q := vc_ok (cuts := [17, 42]) 600 42 _ _ _ _ h
/-! 147 X9_searchOf -/
set_option maxRecDepth 100000 in
theorem b147_0 {S : (Nat → Int32) × Nat} {t : qT} {D : qD} {Q : Int → qT → qD → Prop} {l1 l2 : Int} (h :
wp S 146 0 [some (qs 28), some (qi l1), none, none, none, none] [] t D (fun _ t1 D1 =>
  (chk (qR (D1 28 28))
    (if (D1 28 28) = (-1) then
      (Q (-1) t1 D1)
      else
      (chk (qR l2)
        (if l2 = 0 then
          (Q (D1 28 28) t1 D1)
          else
          (chk (qR l2)
            (if l2 = 1 then
              (Q (D1 28 29) t1 D1)
              else
              (Q (D1 28 30) t1 D1))))))))) : wp S 147 0 [some (qs 28), some (qi l1), some (qi l2)] [] t D Q := vc_ok (cuts := []) 600 0 _ _ _ _ h
/-! 148 X9_search -/
set_option maxRecDepth 100000 in
theorem b148_0 {S : (Nat → Int32) × Nat} {t : qT} {D : qD} {Q : Int → qT → qD → Prop} {l1 l2 : Int} (h :
chk (qR l1)
(wp S 110 0 [some (ql l1), none, some (ql 0), none, some (ql 4), none] [] t D (fun x1 t1 D1 =>
    (chk (qR x1)
      (if x1 = 0 then
        (Q (-102) t1 D1)
        else
        (chk (qR l2)
          (wp S 110 0 [some (ql l2), none, some (ql 0), none, some (ql 2), none] [] t1 D1 (fun x2 t2 D2 =>
              (chk (qR x2)
                (if x2 = 0 then
                  (Q (-102) t2 D2)
                  else
                  (wp S 128 0 [some (qs 28)] [] t2 D2 (fun x3 t3 D3 =>
                      (chk (qR x3)
                        (if x3 = 0 then
                        (wp S 147 0 [some (qs 28), some (qi l1), some (qi l2)] [] t3 D3 (fun x4 t4 D4 =>
                        (Q x4 t4 D4)))
                        else
                        (Q (-103) t3 D3))))))))))))))) : wp S 148 0 [some (qs 28), some (qi l1), some (qi l2)] [] t D Q := vc_ok (cuts := []) 600 0 _ _ _ _ h
/-! 149 X9_finish -/
set_option maxRecDepth 100000 in
theorem b149_0 {S : (Nat → Int32) × Nat} {t : qT} {D : qD} {Q : Int → qT → qD → Prop} {l1 l2 : Int} (h :
wp S 134 0 [some (qs 28), some (qi 0)] [] t D (fun x1 t1 D1 =>
  (wp S 149 9 [some (qs 28), some (qi l1), some (qi l2), some (qi x1), some (qi 0)] [] t1 D1 Q))) : wp S 149 0 [some (qs 28), some (qi l1), some (qi l2), none, none] [] t D Q := vc_ok (cuts := [9]) 600 0 _ _ _ _ h
set_option maxRecDepth 100000 in
theorem b149_9 {S : (Nat → Int32) × Nat} {t : qT} {D : qD} {Q : Int → qT → qD → Prop} {l1 l2 l3 l4 : Int} (h :
chk (qR l4)
(chk (qR l2)
  (if l4 < l2 then
    (chk (0 ≤ l3 ∧ l3 < 110)
      (chk (0 ≤ (l3 + 1) ∧ (l3 + 1) < 110)
        (wp S 145 0 [some (qs 28), some (qi (D 42 l3)), some (qi l4), some (qi (D 42 (l3 + 1))), some (qi l1), none] [] t D (fun x1 t1 D1 =>
            (chk (qR x1)
              (if x1 = 2 then
                (chk (0 ≤ l3 ∧ l3 < 110)
                  (chk (0 ≤ (79 + (D1 42 78)) ∧ (79 + (D1 42 78)) < 110)
                    (wp S 149 9 [some (qs 28), some (qi l1), some (qi l2), some (qi l3), some (qi (l4 + 1))] [] t1 (up (up D1 42 (79 + (D1 42 78)) ((10 * (D1 42 l3)) + l4)) 42 78 (((up D1 42 (79 + (D1 42 78)) ((10 * (D1 42 l3)) + l4)) 42 78) + 1)) Q)))
                else
                (wp S 149 9 [some (qs 28), some (qi l1), some (qi l2), some (qi l3), some (qi (l4 + 1))] [] t1 D1 Q)))))))
    else
    (Q 0 t D)))) : wp S 149 9 [some (qs 28), some (qi l1), some (qi l2), some (qi l3), some (qi l4)] [] t D Q := vc_ok (cuts := [9]) 600 9 _ _ _ _ h
/-! 150 X9_doRaise -/
set_option maxRecDepth 100000 in
theorem b150_0 {S : (Nat → Int32) × Nat} {t : qT} {D : qD} {Q : Int → qT → qD → Prop} {l1 : Int} (h :
wp S 150 15 [some (qs 28), some (qi l1), some (qi (D 28 28)), some (qi 0)] [] t (up D 42 78 0) Q) : wp S 150 0 [some (qs 28), some (qi l1), none, none] [] t D Q := vc_ok (cuts := [15]) 600 0 _ _ _ _ h
set_option maxRecDepth 100000 in
theorem b150_15 {S : (Nat → Int32) × Nat} {t : qT} {D : qD} {Q : Int → qT → qD → Prop} {l1 l2 l3 : Int} (h :
chk (qR l3)
(chk (qR l2)
  (if l3 < l2 then
    (wp S 134 0 [some (qs 28), some (qi 0)] [] t D (fun x1 t1 D1 =>
        (chk (0 ≤ x1 ∧ x1 < 110)
          (chk (0 ≤ (D1 42 x1) ∧ (D1 42 x1) < 3)
            (wp S 149 0 [some (qs 28), some (qi l1), some (qi (D1 38 (D1 42 x1))), none, none] [] t1 D1 (fun _ t2 D2 =>
                (wp S 138 0 [some (qs 28), none, none, none] [] t2 D2 (fun _ t3 D3 =>
                    (wp S 150 15 [some (qs 28), some (qi l1), some (qi l2), some (qi (l3 + 1))] [] t3 D3 Q)))))))))
    else
    (wp S 149 0 [some (qs 28), some (qi l1), some (qi (D 28 29)), none, none] [] t D (fun _ t4 D4 =>
        (wp S 134 0 [some (qs 28), some (qi 0)] [] t4 D4 (fun x5 t5 D5 =>
            (chk (0 ≤ x5 ∧ x5 < 110)
              (chk (0 ≤ (((15 * (D5 42 x5)) + (5 * (D5 28 29))) + 4) ∧ (((15 * (D5 42 x5)) + (5 * (D5 28 29))) + 4) < 45)
                (chk (0 ≤ (x5 + 1) ∧ (x5 + 1) < 110)
                  (Q 0 t5 (up D5 42 (x5 + 1) (D5 40 (((15 * (D5 42 x5)) + (5 * (D5 28 29))) + 4)))))))))))))) : wp S 150 15 [some (qs 28), some (qi l1), some (qi l2), some (qi l3)] [] t D Q := vc_ok (cuts := [15]) 600 15 _ _ _ _ h
/-! 151 X9_raise -/
set_option maxRecDepth 100000 in
theorem b151_0 {S : (Nat → Int32) × Nat} {t : qT} {D : qD} {Q : Int → qT → qD → Prop} {l1 : Int} (h :
chk (qR l1)
(wp S 110 0 [some (ql l1), none, some (ql 0), none, some (ql 4), none] [] t D (fun x1 t1 D1 =>
    (chk (qR x1)
      (if x1 = 0 then
        (Q (-102) t1 D1)
        else
        (wp S 128 0 [some (qs 28)] [] t1 D1 (fun x2 t2 D2 =>
            (chk (qR x2)
              (if x2 = 0 then
                (wp S 146 0 [some (qs 28), some (qi l1), none, none, none, none] [] t2 D2 (fun _ t3 D3 =>
                    (chk (qR (D3 28 28))
                      (if (D3 28 28) = (-1) then
                        (Q (-1) t3 D3)
                        else
                        (wp S 131 0 [some (qs 28), none] [] t3 D3 (fun _ t4 D4 =>
                        (wp S 150 0 [some (qs 28), some (qi l1), none, none] [] t4 D4 (fun _ t5 D5 =>
                        (Q (D5 28 28) t5 D5)))))))))
                else
                (Q (-103) t2 D2)))))))))) : wp S 151 0 [some (qs 28), some (qi l1)] [] t D Q := vc_ok (cuts := []) 600 0 _ _ _ _ h
/-! 152 X9_looseOf -/
set_option maxRecDepth 100000 in
theorem b152_0 {S : (Nat → Int32) × Nat} {t : qT} {D : qD} {Q : Int → qT → qD → Prop} (h :
wp S 152 4 [some (qs 28), some (qi 0), some (qi 0)] [] t D Q) : wp S 152 0 [some (qs 28), none, none] [] t D Q := vc_ok (cuts := [4]) 600 0 _ _ _ _ h
set_option maxRecDepth 100000 in
theorem b152_4 {S : (Nat → Int32) × Nat} {t : qT} {D : qD} {Q : Int → qT → qD → Prop} {l1 l2 : Int} (h :
chk (qR l2)
(if l2 < 5 then
  (wp S 147 0 [some (qs 28), some (qi l2), some (qi 0)] [] t D (fun x1 t1 D1 =>
      (chk (qR x1)
        (if x1 = (-1) then
          (wp S 152 4 [some (qs 28), some (qi (qor l1 (qshl 1 l2))), some (qi (l2 + 1))] [] t1 D1 Q)
          else
          (wp S 152 4 [some (qs 28), some (qi (qor l1 0)), some (qi (l2 + 1))] [] t1 D1 Q)))))
  else
  (Q l1 t D))) : wp S 152 4 [some (qs 28), some (qi l1), some (qi l2)] [] t D Q := vc_ok (cuts := [4]) 600 4 _ _ _ _ h
/-! 153 X9_loose -/
set_option maxRecDepth 100000 in
theorem b153_0 {S : (Nat → Int32) × Nat} {t : qT} {D : qD} {Q : Int → qT → qD → Prop} (h :
wp S 128 0 [some (qs 28)] [] t D (fun x1 t1 D1 =>
  (chk (qR x1)
    (if x1 = 0 then
      (wp S 152 0 [some (qs 28), none, none] [] t1 D1 (fun x2 t2 D2 =>
          (Q x2 t2 D2)))
      else
      (Q (-103) t1 D1))))) : wp S 153 0 [some (qs 28)] [] t D Q := vc_ok (cuts := []) 600 0 _ _ _ _ h
/-! 154 X9_finished -/
set_option maxRecDepth 100000 in
theorem b154_0 {S : (Nat → Int32) × Nat} {t : qT} {D : qD} {Q : Int → qT → qD → Prop} {l1 : Int} (h :
chk (qR l1)
(if l1 = (-1) then
  (Q (D 42 78) t D)
  else
  (chk (qR l1)
    (chk (qR ((D 42 78) - 1))
      (wp S 110 0 [some (ql l1), none, some (ql 0), none, some (ql ((D 42 78) - 1)), none] [] t D (fun x1 t1 D1 =>
          (chk (qR x1)
            (if x1 = 0 then
              (Q (-101) t1 D1)
              else
              (chk (0 ≤ (79 + l1) ∧ (79 + l1) < 110)
                (Q (D1 42 (79 + l1)) t1 D1)))))))))) : wp S 154 0 [some (qs 28), some (qi l1)] [] t D Q := vc_ok (cuts := []) 600 0 _ _ _ _ h
/-! 155 X9_change -/
set_option maxRecDepth 100000 in
theorem b155_0 {S : (Nat → Int32) × Nat} {t : qT} {D : qD} {Q : Int → qT → qD → Prop} {l1 l2 l3 : Int} (h :
wp S 130 0 [some (qs 28), some (qi l1), some (qi l2)] [] t D (fun x1 t1 D1 =>
  (chk (qR x1)
    (if x1 = 0 then
      (Q (-101) t1 D1)
      else
      (chk (qR l3)
        (wp S 110 0 [some (ql l3), none, some (ql 0), none, some (ql 4), none] [] t1 D1 (fun x2 t2 D2 =>
            (chk (qR x2)
              (if x2 = 0 then
                (Q (-102) t2 D2)
                else
                (wp S 131 0 [some (qs 28), none] [] t2 D2 (fun _ t3 D3 =>
                    (chk (0 ≤ ((3 * l1) + l2) ∧ ((3 * l1) + l2) < 110)
                      (chk (0 ≤ ((3 * l1) + l2) ∧ ((3 * l1) + l2) < 110)
                        (Q (D3 42 ((3 * l1) + l2)) t3 (up D3 42 ((3 * l1) + l2) l3))))))))))))))) : wp S 155 0 [some (qs 28), some (qi l1), some (qi l2), some (qi l3), none] [] t D Q := vc_ok (cuts := []) 600 0 _ _ _ _ h
/-! 156 X9_tellRow -/
set_option maxRecDepth 100000 in
theorem b156_0 {S : (Nat → Int32) × Nat} {t : qT} {D : qD} {Q : Int → qT → qD → Prop} {l1 l2 l3 : Int} (h :
chk (qR l3)
(if l3 = 4 then
  (chk (0 ≤ ((10 * l1) + l2) ∧ ((10 * l1) + l2) < 30)
    (Q (D 35 ((10 * l1) + l2)) t D))
  else
  (if l3 = 5 then
    (chk (0 ≤ ((10 * l1) + l2) ∧ ((10 * l1) + l2) < 30)
      (Q (D 36 ((10 * l1) + l2)) t D))
    else
    (chk (0 ≤ (((40 * l1) + (4 * l2)) + l3) ∧ (((40 * l1) + (4 * l2)) + l3) < 120)
      (Q (D 34 (((40 * l1) + (4 * l2)) + l3)) t D))))) : wp S 156 0 [some (qs 28), some (qi l1), some (qi l2), some (qi l3)] [] t D Q := vc_ok (cuts := []) 600 0 _ _ _ _ h
/-! 157 X9_row -/
set_option maxRecDepth 100000 in
theorem b157_0 {S : (Nat → Int32) × Nat} {t : qT} {D : qD} {Q : Int → qT → qD → Prop} {l1 l2 l3 : Int} (h :
wp S 129 0 [some (qs 28), some (qi l1)] [] t D (fun x1 t1 D1 =>
  (chk (qR x1)
    (if x1 = 0 then
      (Q (-101) t1 D1)
      else
      (chk (qR l2)
        (wp S 110 0 [some (ql l2), none, some (ql 0), none, some (ql 9), none] [] t1 D1 (fun x2 t2 D2 =>
            (chk (qR x2)
              (if x2 = 0 then
                (Q (-101) t2 D2)
                else
                (chk (qR l3)
                  (wp S 110 0 [some (ql l3), none, some (ql 0), none, some (ql 5), none] [] t2 D2 (fun x3 t3 D3 =>
                      (chk (qR x3)
                        (if x3 = 0 then
                        (Q (-102) t3 D3)
                        else
                        (wp S 156 0 [some (qs 28), some (qi l1), some (qi l2), some (qi l3)] [] t3 D3 (fun x4 t4 D4 =>
                        (Q x4 t4 D4))))))))))))))))) : wp S 157 0 [some (qs 28), some (qi l1), some (qi l2), some (qi l3)] [] t D Q := vc_ok (cuts := []) 600 0 _ _ _ _ h
/-! 158 X9_tellPad -/
set_option maxRecDepth 100000 in
theorem b158_0 {S : (Nat → Int32) × Nat} {t : qT} {D : qD} {Q : Int → qT → qD → Prop} {l1 l2 l3 : Int} (h :
chk (qR l3)
(if l3 = 0 then
  (chk (0 ≤ ((3 * l1) + l2) ∧ ((3 * l1) + l2) < 110)
    (Q (D 42 ((3 * l1) + l2)) t D))
  else
  (if l3 = 1 then
    (chk (0 ≤ (((15 * l1) + (5 * l2)) + l3) ∧ (((15 * l1) + (5 * l2)) + l3) < 45)
      (Q (D 40 (((15 * l1) + (5 * l2)) + l3)) t D))
    else
    (if l3 = 2 then
      (chk (0 ≤ (((15 * l1) + (5 * l2)) + l3) ∧ (((15 * l1) + (5 * l2)) + l3) < 45)
        (Q (D 40 (((15 * l1) + (5 * l2)) + l3)) t D))
      else
      (if l3 = 3 then
        (chk (0 ≤ (((15 * l1) + (5 * l2)) + l3) ∧ (((15 * l1) + (5 * l2)) + l3) < 45)
          (Q (D 40 (((15 * l1) + (5 * l2)) + l3)) t D))
        else
        (if l3 = 4 then
          (chk (0 ≤ (((15 * l1) + (5 * l2)) + l3) ∧ (((15 * l1) + (5 * l2)) + l3) < 45)
            (Q (D 40 (((15 * l1) + (5 * l2)) + l3)) t D))
          else
          (if l3 = 5 then
            (wp S 168 0 [some (qs 28), some (qi l1), some (qi l2), none, none, none, none, none, none] [] t D (fun x1 t1 D1 =>
                (Q x1 t1 D1)))
            else
            (if l3 = 6 then
              (wp S 169 0 [some (qs 28), some (qi l1), some (qi l2), none, none, none, none, none, none, none, none, none] [] t D (fun x2 t2 D2 =>
                  (Q x2 t2 D2)))
              else
              (Q (-102) t D))))))))) : wp S 158 0 [some (qs 28), some (qi l1), some (qi l2), some (qi l3)] [] t D Q := vc_ok (cuts := []) 600 0 _ _ _ _ h
/-! 159 X9_pad -/
set_option maxRecDepth 100000 in
theorem b159_0 {S : (Nat → Int32) × Nat} {t : qT} {D : qD} {Q : Int → qT → qD → Prop} {l1 l2 l3 : Int} (h :
wp S 130 0 [some (qs 28), some (qi l1), some (qi l2)] [] t D (fun x1 t1 D1 =>
  (chk (qR x1)
    (if x1 = 0 then
      (Q (-101) t1 D1)
      else
      (wp S 158 0 [some (qs 28), some (qi l1), some (qi l2), some (qi l3)] [] t1 D1 (fun x2 t2 D2 =>
          (Q x2 t2 D2))))))) : wp S 159 0 [some (qs 28), some (qi l1), some (qi l2), some (qi l3)] [] t D Q := vc_ok (cuts := []) 600 0 _ _ _ _ h
/-! 160 X9_as -/
set_option maxRecDepth 100000 in
theorem b160_0 {S : (Nat → Int32) × Nat} {t : qT} {D : qD} {Q : Int → qT → qD → Prop} {l1 l2 l3 : Int} (h :
wp S 130 0 [some (qs 28), some (qi l1), some (qi l2)] [] t D (fun x1 t1 D1 =>
  (chk (qR x1)
    (if x1 = 0 then
      (Q (-101) t1 D1)
      else
      (chk (qR l3)
        (wp S 110 0 [some (ql l3), none, some (ql 0), none, some (ql 4), none] [] t1 D1 (fun x2 t2 D2 =>
            (chk (qR x2)
              (if x2 = 0 then
                (Q (-102) t2 D2)
                else
                (chk (0 ≤ ((3 * l1) + l2) ∧ ((3 * l1) + l2) < 110)
                  (chk (qR l3)
                    (if l3 = 0 then
                      (Q l2 t2 D2)
                      else
                      (chk (qR l3)
                        (chk (qR (D2 42 ((3 * l1) + l2)))
                        (if l3 = (D2 42 ((3 * l1) + l2)) then
                        (Q l2 t2 D2)
                        else
                        (chk (qR l3)
                        (if l3 = 2 then
                        (chk (qR (D2 42 ((3 * l1) + l2)))
                        (if (D2 42 ((3 * l1) + l2)) = 4 then
                        (Q l2 t2 D2)
                        else
                        (Q (-1) t2 D2)))
                        else
                        (Q (-1) t2 D2)))))))))))))))))) : wp S 160 0 [some (qs 28), some (qi l1), some (qi l2), some (qi l3), none] [] t D Q := vc_ok (cuts := []) 600 0 _ _ _ _ h
/-! 161 X9_callerOf -/
set_option maxRecDepth 100000 in
theorem b161_0 {S : (Nat → Int32) × Nat} {t : qT} {D : qD} {Q : Int → qT → qD → Prop} {l1 l2 : Int} (h :
chk (0 ≤ (9 + l2) ∧ (9 + l2) < 110)
(wp S 161 13 [some (qs 28), some (qi l1), some (qi l2), some (qi (D 42 (9 + l2))), some (qi 0), none, none] [] t D Q)) : wp S 161 0 [some (qs 28), some (qi l1), some (qi l2), none, none, none, none] [] t D Q := vc_ok (cuts := [13]) 600 0 _ _ _ _ h
set_option maxRecDepth 100000 in
theorem b161_13 {S : (Nat → Int32) × Nat} {t : qT} {D : qD} {Q : Int → qT → qD → Prop} {l1 l2 l3 l4 : Int} {o5 o6 : Option qV} (h :
chk (qR l4)
(chk (qR l1)
  (if l1 < l4 then
    (Q l3 t D)
    else
    (wp S 134 0 [some (qs 28), some (qi l4)] [] t D (fun x1 t1 D1 =>
        (chk (0 ≤ x1 ∧ x1 < 110)
          (chk (0 ≤ (x1 + 1) ∧ (x1 + 1) < 110)
            (chk (0 ≤ (((40 * (D1 42 x1)) + (4 * (D1 42 (x1 + 1)))) + l2) ∧ (((40 * (D1 42 x1)) + (4 * (D1 42 (x1 + 1)))) + l2) < 120)
              (chk (qR (D1 34 (((40 * (D1 42 x1)) + (4 * (D1 42 (x1 + 1)))) + l2)))
                (if (D1 34 (((40 * (D1 42 x1)) + (4 * (D1 42 (x1 + 1)))) + l2)) = (-1) then
                  (wp S 161 13 [some (qs 28), some (qi l1), some (qi l2), some (qi l3), some (qi (l4 + 1)), some (qi x1), some (qi (D1 34 (((40 * (D1 42 x1)) + (4 * (D1 42 (x1 + 1)))) + l2)))] [] t1 D1 Q)
                  else
                  (chk (0 ≤ ((x1 + 2) + (D1 34 (((40 * (D1 42 x1)) + (4 * (D1 42 (x1 + 1)))) + l2))) ∧ ((x1 + 2) + (D1 34 (((40 * (D1 42 x1)) + (4 * (D1 42 (x1 + 1)))) + l2))) < 110)
                    (wp S 161 13 [some (qs 28), some (qi l1), some (qi l2), some (qi (D1 42 ((x1 + 2) + (D1 34 (((40 * (D1 42 x1)) + (4 * (D1 42 (x1 + 1)))) + l2))))), some (qi (l4 + 1)), some (qi x1), some (qi (D1 34 (((40 * (D1 42 x1)) + (4 * (D1 42 (x1 + 1)))) + l2)))] [] t1 D1 Q)))))))))))) : wp S 161 13 [some (qs 28), some (qi l1), some (qi l2), some (qi l3), some (qi l4), o5, o6] [] t D Q := vc_ok (cuts := [13]) 600 13 _ _ _ _ h
/-! 162 X9_tellFrame -/
set_option maxRecDepth 100000 in
theorem b162_0 {S : (Nat → Int32) × Nat} {t : qT} {D : qD} {Q : Int → qT → qD → Prop} {l1 l2 : Int} (h :
chk (qR l2)
(if l2 < 8 then
  (wp S 134 0 [some (qs 28), some (qi l1)] [] t D (fun x1 t1 D1 =>
      (chk (0 ≤ (x1 + l2) ∧ (x1 + l2) < 110)
        (Q (D1 42 (x1 + l2)) t1 D1))))
  else
  (wp S 161 0 [some (qs 28), some (qi l1), some (qi (l2 - 8)), none, none, none, none] [] t D (fun x2 t2 D2 =>
      (Q x2 t2 D2))))) : wp S 162 0 [some (qs 28), some (qi l1), some (qi l2)] [] t D Q := vc_ok (cuts := []) 600 0 _ _ _ _ h
/-! 163 X9_frame -/
set_option maxRecDepth 100000 in
theorem b163_0 {S : (Nat → Int32) × Nat} {t : qT} {D : qD} {Q : Int → qT → qD → Prop} {l1 l2 : Int} (h :
chk (qR l1)
(wp S 133 0 [some (qs 28)] [] t D (fun x1 t1 D1 =>
    (chk (qR (x1 - 1))
      (wp S 110 0 [some (ql l1), none, some (ql 0), none, some (ql (x1 - 1)), none] [] t1 D1 (fun x2 t2 D2 =>
          (chk (qR x2)
            (if x2 = 0 then
              (Q (-101) t2 D2)
              else
              (chk (qR l2)
                (wp S 110 0 [some (ql l2), none, some (ql 0), none, some (ql 11), none] [] t2 D2 (fun x3 t3 D3 =>
                    (chk (qR x3)
                      (if x3 = 0 then
                        (Q (-102) t3 D3)
                        else
                        (wp S 162 0 [some (qs 28), some (qi l1), some (qi l2)] [] t3 D3 (fun x4 t4 D4 =>
                        (Q x4 t4 D4)))))))))))))))) : wp S 163 0 [some (qs 28), some (qi l1), some (qi l2)] [] t D Q := vc_ok (cuts := []) 600 0 _ _ _ _ h
/-! 164 X9_register -/
set_option maxRecDepth 100000 in
theorem b164_0 {S : (Nat → Int32) × Nat} {t : qT} {D : qD} {Q : Int → qT → qD → Prop} {l1 : Int} (h :
chk (qR l1)
(wp S 110 0 [some (ql l1), none, some (ql 0), none, some (ql 3), none] [] t D (fun x1 t1 D1 =>
    (chk (qR x1)
      (if x1 = 0 then
        (Q (-101) t1 D1)
        else
        (chk (0 ≤ (9 + l1) ∧ (9 + l1) < 110)
          (Q (D1 42 (9 + l1)) t1 D1))))))) : wp S 164 0 [some (qs 28), some (qi l1)] [] t D Q := vc_ok (cuts := []) 600 0 _ _ _ _ h
/-! 165 X9_same -/
set_option maxRecDepth 100000 in
theorem b165_0 {S : (Nat → Int32) × Nat} {t : qT} {D : qD} {Q : Int → qT → qD → Prop} {l1 l2 : Int} (h :
wp S 129 0 [some (qs 28), some (qi l1)] [] t D (fun x1 t1 D1 =>
  (chk (qR x1)
    (if x1 = 0 then
      (Q (-101) t1 D1)
      else
      (wp S 129 0 [some (qs 28), some (qi l2)] [] t1 D1 (fun x2 t2 D2 =>
          (chk (qR x2)
            (if x2 = 0 then
              (Q (-101) t2 D2)
              else
              (wp S 165 24 [some (qs 28), some (qi l1), some (qi l2), some (qi 1), some (qi 0)] [] t2 D2 Q))))))))) : wp S 165 0 [some (qs 28), some (qi l1), some (qi l2), none, none] [] t D Q := vc_ok (cuts := [24]) 600 0 _ _ _ _ h
set_option maxRecDepth 100000 in
theorem b165_24 {S : (Nat → Int32) × Nat} {t : qT} {D : qD} {Q : Int → qT → qD → Prop} {l1 l2 l3 l4 : Int} (h :
chk (qR l4)
(if l4 < 40 then
  (chk (qR l3)
    (if l3 = 0 then
      (wp S 165 24 [some (qs 28), some (qi l1), some (qi l2), some (qi 0), some (qi (l4 + 1))] [] t D Q)
      else
      (chk (0 ≤ ((40 * l1) + l4) ∧ ((40 * l1) + l4) < 120)
        (chk (0 ≤ ((40 * l2) + l4) ∧ ((40 * l2) + l4) < 120)
          (chk (qR (D 34 ((40 * l1) + l4)))
            (chk (qR (D 34 ((40 * l2) + l4)))
              (if (D 34 ((40 * l1) + l4)) = (D 34 ((40 * l2) + l4)) then
                (wp S 165 24 [some (qs 28), some (qi l1), some (qi l2), some (qi 1), some (qi (l4 + 1))] [] t D Q)
                else
                (wp S 165 24 [some (qs 28), some (qi l1), some (qi l2), some (qi 0), some (qi (l4 + 1))] [] t D Q))))))))
  else
  (chk (qR l3)
    (if l3 = 0 then
      (Q 0 t D)
      else
      (Q 1 t D))))) : wp S 165 24 [some (qs 28), some (qi l1), some (qi l2), some (qi l3), some (qi l4)] [] t D Q := vc_ok (cuts := [24]) 600 24 _ _ _ _ h
/-! 166 X9_see -/
set_option maxRecDepth 100000 in
theorem b166_0 {S : (Nat → Int32) × Nat} {t : qT} {D : qD} {Q : Int → qT → qD → Prop} {l1 l2 l3 l4 : Int} (h :
wp S 130 0 [some (qs 28), some (qi l1), some (qi l2)] [] t D (fun x1 t1 D1 =>
  (chk (qR x1)
    (if x1 = 0 then
      (Q (-101) t1 D1)
      else
      (chk (qR l3)
        (wp S 110 0 [some (ql l3), none, some (ql 0), none, some (ql 4), none] [] t1 D1 (fun x2 t2 D2 =>
            (chk (qR x2)
              (if x2 = 0 then
                (Q (-102) t2 D2)
                else
                (chk (qR l4)
                  (wp S 110 0 [some (ql l4), none, some (ql 0), none, some (ql 2), none] [] t2 D2 (fun x3 t3 D3 =>
                      (chk (qR x3)
                        (if x3 = 0 then
                        (Q (-102) t3 D3)
                        else
                        (chk (qR (D3 28 31))
                        (if (D3 28 31) = 6 then
                        (Q (-104) t3 D3)
                        else
                        (chk (0 ≤ (4 * (D3 28 31)) ∧ (4 * (D3 28 31)) < 24)
                        (chk (0 ≤ ((4 * ((up D3 44 (4 * (D3 28 31)) l1) 28 31)) + 1) ∧ ((4 * ((up D3 44 (4 * (D3 28 31)) l1) 28 31)) + 1) < 24)
                        (chk (0 ≤ ((4 * ((up (up D3 44 (4 * (D3 28 31)) l1) 44 ((4 * ((up D3 44 (4 * (D3 28 31)) l1) 28 31)) + 1) l2) 28 31)) + 2) ∧ ((4 * ((up (up D3 44 (4 * (D3 28 31)) l1) 44 ((4 * ((up D3 44 (4 * (D3 28 31)) l1) 28 31)) + 1) l2) 28 31)) + 2) < 24)
                        (chk (0 ≤ ((4 * ((up (up (up D3 44 (4 * (D3 28 31)) l1) 44 ((4 * ((up D3 44 (4 * (D3 28 31)) l1) 28 31)) + 1) l2) 44 ((4 * ((up (up D3 44 (4 * (D3 28 31)) l1) 44 ((4 * ((up D3 44 (4 * (D3 28 31)) l1) 28 31)) + 1) l2) 28 31)) + 2) l3) 28 31)) + 3) ∧ ((4 * ((up (up (up D3 44 (4 * (D3 28 31)) l1) 44 ((4 * ((up D3 44 (4 * (D3 28 31)) l1) 28 31)) + 1) l2) 44 ((4 * ((up (up D3 44 (4 * (D3 28 31)) l1) 44 ((4 * ((up D3 44 (4 * (D3 28 31)) l1) 28 31)) + 1) l2) 28 31)) + 2) l3) 28 31)) + 3) < 24)
                        (Q (((up (up (up (up D3 44 (4 * (D3 28 31)) l1) 44 ((4 * ((up D3 44 (4 * (D3 28 31)) l1) 28 31)) + 1) l2) 44 ((4 * ((up (up D3 44 (4 * (D3 28 31)) l1) 44 ((4 * ((up D3 44 (4 * (D3 28 31)) l1) 28 31)) + 1) l2) 28 31)) + 2) l3) 44 ((4 * ((up (up (up D3 44 (4 * (D3 28 31)) l1) 44 ((4 * ((up D3 44 (4 * (D3 28 31)) l1) 28 31)) + 1) l2) 44 ((4 * ((up (up D3 44 (4 * (D3 28 31)) l1) 44 ((4 * ((up D3 44 (4 * (D3 28 31)) l1) 28 31)) + 1) l2) 28 31)) + 2) l3) 28 31)) + 3) l4) 28 31) + 1) t3 (up (up (up (up (up D3 44 (4 * (D3 28 31)) l1) 44 ((4 * ((up D3 44 (4 * (D3 28 31)) l1) 28 31)) + 1) l2) 44 ((4 * ((up (up D3 44 (4 * (D3 28 31)) l1) 44 ((4 * ((up D3 44 (4 * (D3 28 31)) l1) 28 31)) + 1) l2) 28 31)) + 2) l3) 44 ((4 * ((up (up (up D3 44 (4 * (D3 28 31)) l1) 44 ((4 * ((up D3 44 (4 * (D3 28 31)) l1) 28 31)) + 1) l2) 44 ((4 * ((up (up D3 44 (4 * (D3 28 31)) l1) 44 ((4 * ((up D3 44 (4 * (D3 28 31)) l1) 28 31)) + 1) l2) 28 31)) + 2) l3) 28 31)) + 3) l4) 28 31 (((up (up (up (up D3 44 (4 * (D3 28 31)) l1) 44 ((4 * ((up D3 44 (4 * (D3 28 31)) l1) 28 31)) + 1) l2) 44 ((4 * ((up (up D3 44 (4 * (D3 28 31)) l1) 44 ((4 * ((up D3 44 (4 * (D3 28 31)) l1) 28 31)) + 1) l2) 28 31)) + 2) l3) 44 ((4 * ((up (up (up D3 44 (4 * (D3 28 31)) l1) 44 ((4 * ((up D3 44 (4 * (D3 28 31)) l1) 28 31)) + 1) l2) 44 ((4 * ((up (up D3 44 (4 * (D3 28 31)) l1) 44 ((4 * ((up D3 44 (4 * (D3 28 31)) l1) 28 31)) + 1) l2) 28 31)) + 2) l3) 28 31)) + 3) l4) 28 31) + 1))))))))))))))))))))))) : wp S 166 0 [some (qs 28), some (qi l1), some (qi l2), some (qi l3), some (qi l4)] [] t D Q := vc_ok (cuts := []) 600 0 _ _ _ _ h
/-! 167 X9_forget -/
set_option maxRecDepth 100000 in
theorem b167_0 {S : (Nat → Int32) × Nat} {t : qT} {D : qD} {Q : Int → qT → qD → Prop} (h :
Q (D 28 31) t (up D 28 31 0)) : wp S 167 0 [some (qs 28), none] [] t D Q := vc_ok (cuts := []) 600 0 _ _ _ _ h
/-! 168 X9_sortsOf -/
set_option maxRecDepth 100000 in
theorem b168_0 {S : (Nat → Int32) × Nat} {t : qT} {D : qD} {Q : Int → qT → qD → Prop} {l1 l2 : Int} (h :
chk (0 ≤ (((15 * l1) + (5 * l2)) + 3) ∧ (((15 * l1) + (5 * l2)) + 3) < 45)
(wp S 168 22 [some (qs 28), some (qi l1), some (qi l2), some (qi (D 40 (((15 * l1) + (5 * l2)) + 3))), some (qi 0), some (qi 0), none, none, none] [] t D Q)) : wp S 168 0 [some (qs 28), some (qi l1), some (qi l2), none, none, none, none, none, none] [] t D Q := vc_ok (cuts := [22, 34]) 600 0 _ _ _ _ h
set_option maxRecDepth 100000 in
theorem b168_22 {S : (Nat → Int32) × Nat} {t : qT} {D : qD} {Q : Int → qT → qD → Prop} {l1 l2 l3 l4 l5 : Int} {o6 o7 o8 : Option qV} (h :
chk (qR l5)
(if l5 < 5 then
  (wp S 168 34 [some (qs 28), some (qi l1), some (qi l2), some (qi l3), some (qi l4), some (qi l5), some (qi 1), some (qi 0), o8] [] t D Q)
  else
  (Q l4 t D))) : wp S 168 22 [some (qs 28), some (qi l1), some (qi l2), some (qi l3), some (qi l4), some (qi l5), o6, o7, o8] [] t D Q := vc_ok (cuts := [22, 34]) 600 22 _ _ _ _ h
set_option maxRecDepth 100000 in
theorem b168_34 {S : (Nat → Int32) × Nat} {t : qT} {D : qD} {Q : Int → qT → qD → Prop} {l1 l2 l3 l4 l5 l6 l7 : Int} {o8 : Option qV} (h :
chk (qR l7)
(chk (qR (4 * (D 28 31)))
  (if l7 < (4 * (D 28 31)) then
    (chk (0 ≤ l7 ∧ l7 < 24)
      (chk (qR (D 44 l7))
        (chk (qR l1)
          (if (D 44 l7) = l1 then
            (chk (0 ≤ (l7 + 1) ∧ (l7 + 1) < 24)
              (chk (qR (D 44 (l7 + 1)))
                (chk (qR l2)
                  (if (D 44 (l7 + 1)) = l2 then
                    (chk (qR l6)
                      (if l6 = 0 then
                        (wp S 168 34 [some (qs 28), some (qi l1), some (qi l2), some (qi l3), some (qi l4), some (qi l5), some (qi 0), some (qi (l7 + 4)), some (qi 1)] [] t D Q)
                        else
                        (chk (0 ≤ (l7 + 2) ∧ (l7 + 2) < 24)
                        (wp S 144 0 [some (qi l5), some (qi l3), some (qi (D 44 (l7 + 2)))] [] t D (fun x1 t1 D1 =>
                        (chk (0 ≤ (l7 + 3) ∧ (l7 + 3) < 24)
                        (chk (qR x1)
                        (chk (qR (D1 44 (l7 + 3)))
                        (if x1 = (D1 44 (l7 + 3)) then
                        (wp S 168 34 [some (qs 28), some (qi l1), some (qi l2), some (qi l3), some (qi l4), some (qi l5), some (qi 1), some (qi (l7 + 4)), some (qi 1)] [] t1 D1 Q)
                        else
                        (wp S 168 34 [some (qs 28), some (qi l1), some (qi l2), some (qi l3), some (qi l4), some (qi l5), some (qi 0), some (qi (l7 + 4)), some (qi 1)] [] t1 D1 Q))))))))))
                    else
                    (chk (qR l6)
                      (if l6 = 0 then
                        (wp S 168 34 [some (qs 28), some (qi l1), some (qi l2), some (qi l3), some (qi l4), some (qi l5), some (qi 0), some (qi (l7 + 4)), some (qi 0)] [] t D Q)
                        else
                        (wp S 168 34 [some (qs 28), some (qi l1), some (qi l2), some (qi l3), some (qi l4), some (qi l5), some (qi 1), some (qi (l7 + 4)), some (qi 0)] [] t D Q)))))))
            else
            (chk (qR l6)
              (if l6 = 0 then
                (wp S 168 34 [some (qs 28), some (qi l1), some (qi l2), some (qi l3), some (qi l4), some (qi l5), some (qi 0), some (qi (l7 + 4)), some (qi 0)] [] t D Q)
                else
                (wp S 168 34 [some (qs 28), some (qi l1), some (qi l2), some (qi l3), some (qi l4), some (qi l5), some (qi 1), some (qi (l7 + 4)), some (qi 0)] [] t D Q)))))))
    else
    (chk (qR l6)
      (if l6 = 0 then
        (wp S 168 22 [some (qs 28), some (qi l1), some (qi l2), some (qi l3), some (qi (qor l4 0)), some (qi (l5 + 1)), some (qi l6), some (qi l7), o8] [] t D Q)
        else
        (wp S 168 22 [some (qs 28), some (qi l1), some (qi l2), some (qi l3), some (qi (qor l4 (qshl 1 l5))), some (qi (l5 + 1)), some (qi l6), some (qi l7), o8] [] t D Q)))))) : wp S 168 34 [some (qs 28), some (qi l1), some (qi l2), some (qi l3), some (qi l4), some (qi l5), some (qi l6), some (qi l7), o8] [] t D Q := vc_ok (cuts := [22, 34]) 600 34 _ _ _ _ h
/-! 169 X9_askOf -/
set_option maxRecDepth 100000 in
theorem b169_0 {S : (Nat → Int32) × Nat} {t : qT} {D : qD} {Q : Int → qT → qD → Prop} {l1 l2 : Int} (h :
chk (0 ≤ (((15 * l1) + (5 * l2)) + 3) ∧ (((15 * l1) + (5 * l2)) + 3) < 45)
(wp S 168 0 [some (qs 28), some (qi l1), some (qi l2), none, none, none, none, none, none] [] t D (fun x1 t1 D1 =>
    (wp S 169 34 [some (qs 28), some (qi l1), some (qi l2), some (qi (D 40 (((15 * l1) + (5 * l2)) + 3))), some (qi x1), some (qi (-1)), some (qi 6), some (qi 0), none, none, none, none] [] t1 D1 Q)))) : wp S 169 0 [some (qs 28), some (qi l1), some (qi l2), none, none, none, none, none, none, none, none, none] [] t D Q := vc_ok (cuts := [34, 51, 63]) 600 0 _ _ _ _ h
set_option maxRecDepth 100000 in
theorem b169_34 {S : (Nat → Int32) × Nat} {t : qT} {D : qD} {Q : Int → qT → qD → Prop} {l1 l2 l3 l4 l5 l6 l7 : Int} {o8 o9 o10 o11 : Option qV} (h :
chk (qR l7)
(if l7 < 5 then
  (chk (qR l4)
    (if l4 = 0 then
      (Q l5 t D)
      else
      (wp S 169 51 [some (qs 28), some (qi l1), some (qi l2), some (qi l3), some (qi l4), some (qi l5), some (qi l6), some (qi l7), some (qi 0), some (qi 0), o10, o11] [] t D Q)))
  else
  (Q l5 t D))) : wp S 169 34 [some (qs 28), some (qi l1), some (qi l2), some (qi l3), some (qi l4), some (qi l5), some (qi l6), some (qi l7), o8, o9, o10, o11] [] t D Q := vc_ok (cuts := [34, 51, 63]) 600 34 _ _ _ _ h
set_option maxRecDepth 100000 in
theorem b169_51 {S : (Nat → Int32) × Nat} {t : qT} {D : qD} {Q : Int → qT → qD → Prop} {l1 l2 l3 l4 l5 l6 l7 l8 l9 : Int} {o10 o11 : Option qV} (h :
chk (qR l9)
(if l9 < 3 then
  (wp S 169 63 [some (qs 28), some (qi l1), some (qi l2), some (qi l3), some (qi l4), some (qi l5), some (qi l6), some (qi l7), some (qi l8), some (qi l9), some (qi 0), some (qi 0)] [] t D Q)
  else
  (chk (qR l8)
    (chk (qR l6)
      (if l8 < l6 then
        (chk (qR l8)
          (chk (qR l6)
            (if l8 < l6 then
              (wp S 169 34 [some (qs 28), some (qi l1), some (qi l2), some (qi l3), some (qi l4), some (qi l7), some (qi l8), some (qi (l7 + 1)), some (qi l8), some (qi l9), o10, o11] [] t D Q)
              else
              (wp S 169 34 [some (qs 28), some (qi l1), some (qi l2), some (qi l3), some (qi l4), some (qi l7), some (qi l6), some (qi (l7 + 1)), some (qi l8), some (qi l9), o10, o11] [] t D Q))))
        else
        (chk (qR l8)
          (chk (qR l6)
            (if l8 < l6 then
              (wp S 169 34 [some (qs 28), some (qi l1), some (qi l2), some (qi l3), some (qi l4), some (qi l5), some (qi l8), some (qi (l7 + 1)), some (qi l8), some (qi l9), o10, o11] [] t D Q)
              else
              (wp S 169 34 [some (qs 28), some (qi l1), some (qi l2), some (qi l3), some (qi l4), some (qi l5), some (qi l6), some (qi (l7 + 1)), some (qi l8), some (qi l9), o10, o11] [] t D Q))))))))) : wp S 169 51 [some (qs 28), some (qi l1), some (qi l2), some (qi l3), some (qi l4), some (qi l5), some (qi l6), some (qi l7), some (qi l8), some (qi l9), o10, o11] [] t D Q := vc_ok (cuts := [34, 51, 63]) 600 51 _ _ _ _ h
set_option maxRecDepth 100000 in
theorem b169_63 {S : (Nat → Int32) × Nat} {t : qT} {D : qD} {Q : Int → qT → qD → Prop} {l1 l2 l3 l4 l5 l6 l7 l8 l9 l10 l11 : Int} (h :
chk (qR l11)
(if l11 < 5 then
  (wp S 144 0 [some (qi l11), some (qi l3), some (qi l7)] [] t D (fun x1 t1 D1 =>
      (chk (qR x1)
        (chk (qR l9)
          (if x1 = l9 then
            (wp S 169 63 [some (qs 28), some (qi l1), some (qi l2), some (qi l3), some (qi l4), some (qi l5), some (qi l6), some (qi l7), some (qi l8), some (qi l9), some (qi (l10 + (qand (qshr l4 l11) 1))), some (qi (l11 + 1))] [] t1 D1 Q)
            else
            (wp S 169 63 [some (qs 28), some (qi l1), some (qi l2), some (qi l3), some (qi l4), some (qi l5), some (qi l6), some (qi l7), some (qi l8), some (qi l9), some (qi (l10 + 0)), some (qi (l11 + 1))] [] t1 D1 Q))))))
  else
  (chk (qR l10)
    (chk (qR l8)
      (if l8 < l10 then
        (wp S 169 51 [some (qs 28), some (qi l1), some (qi l2), some (qi l3), some (qi l4), some (qi l5), some (qi l6), some (qi l7), some (qi l10), some (qi (l9 + 1)), some (qi l10), some (qi l11)] [] t D Q)
        else
        (wp S 169 51 [some (qs 28), some (qi l1), some (qi l2), some (qi l3), some (qi l4), some (qi l5), some (qi l6), some (qi l7), some (qi l8), some (qi (l9 + 1)), some (qi l10), some (qi l11)] [] t D Q)))))) : wp S 169 63 [some (qs 28), some (qi l1), some (qi l2), some (qi l3), some (qi l4), some (qi l5), some (qi l6), some (qi l7), some (qi l8), some (qi l9), some (qi l10), some (qi l11)] [] t D Q := vc_ok (cuts := [34, 51, 63]) 600 63 _ _ _ _ h
/-! 170 X9_draw -/
set_option maxRecDepth 100000 in
theorem b170_0 {S : (Nat → Int32) × Nat} {t : qT} {D : qD} {Q : Int → qT → qD → Prop} {l1 : Int} (h :
chk (qR (D 28 33))
(chk (0 ≤ (((1103515245 * (D 28 33)) + 12345) % 2147483648) ∧ (((1103515245 * (D 28 33)) + 12345) % 2147483648) < 2147483648)
  (chk (0 ≤ ((((1103515245 * (D 28 33)) + 12345) % 2147483648) / 65536) ∧ ((((1103515245 * (D 28 33)) + 12345) % 2147483648) / 65536) < 2147483648)
    (chk (0 < l1 ∧ l1 < 2147483648)
      (Q (((((1103515245 * (D 28 33)) + 12345) % 2147483648) / 65536) % l1) t (up D 28 33 (((1103515245 * (D 28 33)) + 12345) % 2147483648))))))) : wp S 170 0 [some (qs 28), some (qi l1)] [] t D Q := vc_ok (cuts := []) 600 0 _ _ _ _ h
/-! 171 X9_drawCall -/
set_option maxRecDepth 100000 in
theorem b171_0 {S : (Nat → Int32) × Nat} {t : qT} {D : qD} {Q : Int → qT → qD → Prop} (h :
wp S 170 0 [some (qs 28), some (qi (D 28 14))] [] t D (fun x1 t1 D1 =>
  (wp S 133 0 [some (qs 28)] [] t1 D1 (fun x2 t2 D2 =>
      (chk (qR x2)
        (if x2 < 8 then
          (wp S 136 0 [some (qs 28), some (qi x1), none, none] [] t2 D2 (fun _ t3 D3 =>
              (Q 0 t3 D3)))
          else
          (Q 0 t2 D2))))))) : wp S 171 0 [some (qs 28), none] [] t D Q := vc_ok (cuts := []) 600 0 _ _ _ _ h
/-! 172 X9_drawGo -/
set_option maxRecDepth 100000 in
theorem b172_0 {S : (Nat → Int32) × Nat} {t : qT} {D : qD} {Q : Int → qT → qD → Prop} (h :
wp S 133 0 [some (qs 28)] [] t D (fun x1 t1 D1 =>
  (chk (qR x1)
    (if 0 < x1 then
      (wp S 134 0 [some (qs 28), some (qi 0)] [] t1 D1 (fun x2 t2 D2 =>
          (chk (0 ≤ (x2 + 1) ∧ (x2 + 1) < 110)
            (chk (qR (D2 42 (x2 + 1)))
              (if (D2 42 (x2 + 1)) < 9 then
                (wp S 137 0 [some (qs 28), some (qi 1), none, none] [] t2 D2 (fun _ t3 D3 =>
                    (Q 0 t3 D3)))
                else
                (Q 0 t2 D2))))))
      else
      (Q 0 t1 D1))))) : wp S 172 0 [some (qs 28)] [] t D Q := vc_ok (cuts := []) 600 0 _ _ _ _ h
/-! 173 X9_drawSet -/
set_option maxRecDepth 100000 in
theorem b173_0 {S : (Nat → Int32) × Nat} {t : qT} {D : qD} {Q : Int → qT → qD → Prop} (h :
wp S 170 0 [some (qs 28), some (qi 4)] [] t D (fun x1 t1 D1 =>
  (wp S 170 0 [some (qs 28), some (qi 1000)] [] t1 D1 (fun x2 t2 D2 =>
      (chk (0 ≤ (9 + x1) ∧ (9 + x1) < 110)
        (Q 0 t2 (up D2 42 (9 + x1) x2))))))) : wp S 173 0 [some (qs 28), none] [] t D Q := vc_ok (cuts := []) 600 0 _ _ _ _ h
/-! 174 X9_drawRaise -/
set_option maxRecDepth 100000 in
theorem b174_0 {S : (Nat → Int32) × Nat} {t : qT} {D : qD} {Q : Int → qT → qD → Prop} (h :
wp S 170 0 [some (qs 28), some (qi 5)] [] t D (fun x1 t1 D1 =>
  (wp S 146 0 [some (qs 28), some (qi x1), none, none, none, none] [] t1 D1 (fun _ t2 D2 =>
      (chk (qR (D2 28 28))
        (if (D2 28 28) = (-1) then
          (Q 0 t2 D2)
          else
          (wp S 150 0 [some (qs 28), some (qi x1), none, none] [] t2 D2 (fun _ t3 D3 =>
              (Q 1 t3 D3))))))))) : wp S 174 0 [some (qs 28), none] [] t D Q := vc_ok (cuts := []) 600 0 _ _ _ _ h
/-! 175 X9_drawOne -/
set_option maxRecDepth 100000 in
theorem b175_0 {S : (Nat → Int32) × Nat} {t : qT} {D : qD} {Q : Int → qT → qD → Prop} (h :
wp S 170 0 [some (qs 28), some (qi 4)] [] t D (fun x1 t1 D1 =>
  (chk (qR x1)
    (if x1 = 0 then
      (wp S 171 0 [some (qs 28), none] [] t1 D1 (fun _ t2 D2 =>
          (Q 0 t2 D2)))
      else
      (if x1 = 1 then
        (wp S 172 0 [some (qs 28)] [] t1 D1 (fun _ t3 D3 =>
            (Q 0 t3 D3)))
        else
        (if x1 = 2 then
          (wp S 173 0 [some (qs 28), none] [] t1 D1 (fun _ t4 D4 =>
              (Q 0 t4 D4)))
          else
          (wp S 174 0 [some (qs 28), none] [] t1 D1 (fun x5 t5 D5 =>
              (Q x5 t5 D5))))))))) : wp S 175 0 [some (qs 28)] [] t D Q := vc_ok (cuts := []) 600 0 _ _ _ _ h
/-! 176 X9_drawn -/
set_option maxRecDepth 100000 in
theorem b176_0 {S : (Nat → Int32) × Nat} {t : qT} {D : qD} {Q : Int → qT → qD → Prop} {l1 l2 l3 : Int} (h :
chk (qR l1)
(wp S 110 0 [some (ql l1), none, some (ql 1), none, some (ql 99), none] [] t D (fun x1 t1 D1 =>
    (chk (qR x1)
      (if x1 = 0 then
        (Q (-102) t1 D1)
        else
        (chk (qR l2)
          (if l2 < 0 then
            (Q (-102) t1 D1)
            else
            (chk (qR l3)
              (wp S 110 0 [some (ql l3), none, some (ql 0), none, some (ql 2), none] [] t1 D1 (fun x2 t2 D2 =>
                  (chk (qR x2)
                    (if x2 = 0 then
                      (Q (-102) t2 D2)
                      else
                      (wp S 128 0 [some (qs 28)] [] t2 D2 (fun x3 t3 D3 =>
                        (chk (qR x3)
                        (if x3 = 0 then
                        (wp S 124 0 [some (qs 42), some (qs 45), none] [] t3 D3 (fun _ t4 D4 =>
                        (wp S 176 63 [some (qs 28), some (qi l1), some (qi l2), some (qi l3), some (qi 0), some (qi 0)] [] t4 (up D4 28 33 l2) Q)))
                        else
                        (Q (-103) t3 D3))))))))))))))))) : wp S 176 0 [some (qs 28), some (qi l1), some (qi l2), some (qi l3), none, none] [] t D Q := vc_ok (cuts := [63]) 600 0 _ _ _ _ h
set_option maxRecDepth 100000 in
theorem b176_63 {S : (Nat → Int32) × Nat} {t : qT} {D : qD} {Q : Int → qT → qD → Prop} {l1 l2 l3 l4 l5 : Int} (h :
chk (qR l5)
(chk (qR l1)
  (if l5 < l1 then
    (wp S 175 0 [some (qs 28)] [] t D (fun x1 t1 D1 =>
        (wp S 176 63 [some (qs 28), some (qi l1), some (qi l2), some (qi l3), some (qi (l4 + x1)), some (qi (l5 + 1))] [] t1 D1 Q)))
    else
    (wp S 133 0 [some (qs 28)] [] t D (fun x2 t2 D2 =>
        (wp S 124 0 [some (qs 45), some (qs 42), none] [] t2 D2 (fun _ t3 D3 =>
            (chk (qR l3)
              (if l3 = 0 then
                (Q l4 t3 D3)
                else
                (chk (qR l3)
                  (if l3 = 1 then
                    (Q x2 t3 D3)
                    else
                    (Q (D3 28 33) t3 D3)))))))))))) : wp S 176 63 [some (qs 28), some (qi l1), some (qi l2), some (qi l3), some (qi l4), some (qi l5)] [] t D Q := vc_ok (cuts := [63]) 600 63 _ _ _ _ h
/-! 177 X9_image -/
set_option maxRecDepth 100000 in
theorem b177_0 {S : (Nat → Int32) × Nat} {t : qT} {D : qD} {Q : Int → qT → qD → Prop} (h :
wp S 128 0 [some (qs 28)] [] t D (fun x1 t1 D1 =>
  (chk (qR x1)
    (if x1 = 0 then
      (wp S 124 0 [some (qs 42), some (qs 46), none] [] t1 D1 (fun _ t2 D2 =>
          (wp S 124 0 [some (qs 43), some (qs 47), none] [] t2 D2 (fun _ t3 D3 =>
              (wp S 124 0 [some (qs 44), some (qs 48), none] [] t3 D3 (fun _ t4 D4 =>
                  (wp S 133 0 [some (qs 28)] [] t4 (up (up (up D4 28 36 (D4 28 27)) 28 37 (D4 28 31)) 28 35 (D4 28 15)) (fun x5 t5 D5 =>
                      (Q x5 t5 D5)))))))))
      else
      (Q (-103) t1 D1))))) : wp S 177 0 [some (qs 28)] [] t D Q := vc_ok (cuts := []) 600 0 _ _ _ _ h
/-! 178 X9_restore -/
set_option maxRecDepth 100000 in
theorem b178_0 {S : (Nat → Int32) × Nat} {t : qT} {D : qD} {Q : Int → qT → qD → Prop} (h :
chk (qR (D 28 35))
(chk (qR (D 28 15))
  (if (D 28 35) = (D 28 15) then
    (wp S 124 0 [some (qs 46), some (qs 42), none] [] t D (fun _ t1 D1 =>
        (wp S 124 0 [some (qs 47), some (qs 43), none] [] t1 D1 (fun _ t2 D2 =>
            (wp S 124 0 [some (qs 48), some (qs 44), none] [] t2 D2 (fun _ t3 D3 =>
                (wp S 133 0 [some (qs 28)] [] t3 (up (up D3 28 27 (D3 28 36)) 28 31 (D3 28 37)) (fun x4 t4 D4 =>
                    (Q x4 t4 D4)))))))))
    else
    (Q (-103) t D)))) : wp S 178 0 [some (qs 28)] [] t D Q := vc_ok (cuts := []) 600 0 _ _ _ _ h
/-! 179 X9_padsAll -/
set_option maxRecDepth 100000 in
theorem b179_0 {S : (Nat → Int32) × Nat} {t : qT} {D : qD} {Q : Int → qT → qD → Prop} (h :
wp S 179 4 [some (qs 28), some (qi 0), some (qi 0)] [] t D Q) : wp S 179 0 [some (qs 28), none, none] [] t D Q := vc_ok (cuts := [4]) 600 0 _ _ _ _ h
set_option maxRecDepth 100000 in
theorem b179_4 {S : (Nat → Int32) × Nat} {t : qT} {D : qD} {Q : Int → qT → qD → Prop} {l1 l2 : Int} (h :
chk (qR l2)
(chk (qR (D 28 14))
  (if l2 < (D 28 14) then
    (chk (0 ≤ l2 ∧ l2 < 3)
      (wp S 179 4 [some (qs 28), some (qi (l1 + (D 38 l2))), some (qi (l2 + 1))] [] t D Q))
    else
    (Q l1 t D)))) : wp S 179 4 [some (qs 28), some (qi l1), some (qi l2)] [] t D Q := vc_ok (cuts := [4]) 600 4 _ _ _ _ h
/-! 180 X9_savedMany -/
set_option maxRecDepth 100000 in
theorem b180_0 {S : (Nat → Int32) × Nat} {t : qT} {D : qD} {Q : Int → qT → qD → Prop} (h :
wp S 180 4 [some (qs 28), some (qi 0), some (qi 0), none, none] [] t D Q) : wp S 180 0 [some (qs 28), none, none, none, none] [] t D Q := vc_ok (cuts := [4, 20]) 600 0 _ _ _ _ h
set_option maxRecDepth 100000 in
theorem b180_4 {S : (Nat → Int32) × Nat} {t : qT} {D : qD} {Q : Int → qT → qD → Prop} {l1 l2 : Int} {o3 o4 : Option qV} (h :
chk (qR l2)
(chk (qR (10 * (D 28 14)))
  (if l2 < (10 * (D 28 14)) then
    (wp S 180 20 [some (qs 28), some (qi l1), some (qi l2), some (qi 0), some (qi 0)] [] t D Q)
    else
    (Q l1 t D)))) : wp S 180 4 [some (qs 28), some (qi l1), some (qi l2), o3, o4] [] t D Q := vc_ok (cuts := [4, 20]) 600 4 _ _ _ _ h
set_option maxRecDepth 100000 in
theorem b180_20 {S : (Nat → Int32) × Nat} {t : qT} {D : qD} {Q : Int → qT → qD → Prop} {l1 l2 l3 l4 : Int} (h :
chk (qR l4)
(if l4 < 4 then
  (chk (qR l3)
    (if l3 = 0 then
      (chk (0 ≤ ((4 * l2) + l4) ∧ ((4 * l2) + l4) < 120)
        (chk (qR (D 34 ((4 * l2) + l4)))
          (if (D 34 ((4 * l2) + l4)) = (-1) then
            (wp S 180 20 [some (qs 28), some (qi l1), some (qi l2), some (qi 0), some (qi (l4 + 1))] [] t D Q)
            else
            (wp S 180 20 [some (qs 28), some (qi l1), some (qi l2), some (qi 1), some (qi (l4 + 1))] [] t D Q))))
      else
      (wp S 180 20 [some (qs 28), some (qi l1), some (qi l2), some (qi 1), some (qi (l4 + 1))] [] t D Q)))
  else
  (chk (qR l3)
    (if l3 = 0 then
      (wp S 180 4 [some (qs 28), some (qi (l1 + 0)), some (qi (l2 + 1)), some (qi l3), some (qi l4)] [] t D Q)
      else
      (wp S 180 4 [some (qs 28), some (qi (l1 + 1)), some (qi (l2 + 1)), some (qi l3), some (qi l4)] [] t D Q))))) : wp S 180 20 [some (qs 28), some (qi l1), some (qi l2), some (qi l3), some (qi l4)] [] t D Q := vc_ok (cuts := [4, 20]) 600 20 _ _ _ _ h
/-! 181 X9_countOf -/
set_option maxRecDepth 100000 in
theorem b181_0 {S : (Nat → Int32) × Nat} {t : qT} {D : qD} {Q : Int → qT → qD → Prop} {l1 : Int} (h :
chk (qR l1)
(if l1 = 0 then
  (Q (D 28 14) t D)
  else
  (if l1 = 1 then
    (wp S 179 0 [some (qs 28), none, none] [] t D (fun x1 t1 D1 =>
        (Q x1 t1 D1)))
    else
    (if l1 = 2 then
      (wp S 133 0 [some (qs 28)] [] t D (fun x2 t2 D2 =>
          (Q x2 t2 D2)))
      else
      (if l1 = 3 then
        (Q (D 28 27) t D)
        else
        (if l1 = 4 then
          (wp S 180 0 [some (qs 28), none, none, none, none] [] t D (fun x3 t3 D3 =>
              (Q x3 t3 D3)))
          else
          (if l1 = 5 then
            (Q (D 28 31) t D)
            else
            (if l1 = 6 then
              (Q (D 28 1) t D)
              else
              (if l1 = 7 then
                (Q (D 28 15) t D)
                else
                (Q (-102) t D)))))))))) : wp S 181 0 [some (qs 28), some (qi l1)] [] t D Q := vc_ok (cuts := []) 600 0 _ _ _ _ h
/-! 182 X9_count -/
set_option maxRecDepth 100000 in
theorem b182_0 {S : (Nat → Int32) × Nat} {t : qT} {D : qD} {Q : Int → qT → qD → Prop} {l1 : Int} (h :
wp S 181 0 [some (qs 28), some (qi l1)] [] t D (fun x1 t1 D1 =>
  (Q x1 t1 D1))) : wp S 182 0 [some (qs 28), some (qi l1)] [] t D Q := vc_ok (cuts := []) 600 0 _ _ _ _ h
/-! 183 X9_say -/
set_option maxRecDepth 100000 in
theorem b183_0 {S : (Nat → Int32) × Nat} {t : qT} {D : qD} {Q : Int → qT → qD → Prop} {l1 : Int} (h :
Q 0 t (up D 28 41 ((31 * (D 28 41)) + l1))) : wp S 183 0 [some (qs 28), some (ql l1), none] [] t D Q := vc_ok (cuts := []) 600 0 _ _ _ _ h
/-! 184 X9_sayFunction -/
set_option maxRecDepth 100000 in
theorem b184_0 {S : (Nat → Int32) × Nat} {t : qT} {D : qD} {Q : Int → qT → qD → Prop} {l1 : Int} (h :
wp S 184 2 [some (qs 28), some (qi l1), some (qi 0), none] [] t D Q) : wp S 184 0 [some (qs 28), some (qi l1), none, none] [] t D Q := vc_ok (cuts := [2, 34, 46]) 600 0 _ _ _ _ h
set_option maxRecDepth 100000 in
theorem b184_2 {S : (Nat → Int32) × Nat} {t : qT} {D : qD} {Q : Int → qT → qD → Prop} {l1 l2 : Int} (h :
chk (qR l2)
(if l2 < 60 then
  (chk (0 ≤ l2 ∧ l2 < 2147483648)
    (chk (0 ≤ l2 ∧ l2 < 2147483648)
      (wp S 156 0 [some (qs 28), some (qi l1), some (qi (l2 / 6)), some (qi (l2 % 6))] [] t D (fun x1 t1 D1 =>
          (chk (qR x1)
            (wp S 183 0 [some (qs 28), some (ql x1), none] [] t1 D1 (fun _ t2 D2 =>
                (wp S 184 2 [some (qs 28), some (qi l1), some (qi (l2 + 1)), none] [] t2 D2 Q))))))))
  else
  (wp S 184 34 [some (qs 28), some (qi l1), some (qi 0), none] [] t D Q))) : wp S 184 2 [some (qs 28), some (qi l1), some (qi l2), none] [] t D Q := vc_ok (cuts := [2, 34, 46]) 600 2 _ _ _ _ h
set_option maxRecDepth 100000 in
theorem b184_34 {S : (Nat → Int32) × Nat} {t : qT} {D : qD} {Q : Int → qT → qD → Prop} {l1 l2 : Int} {o3 : Option qV} (h :
chk (0 ≤ l1 ∧ l1 < 3)
(chk (qR l2)
  (chk (qR (D 38 l1))
    (if l2 < (D 38 l1) then
      (wp S 184 46 [some (qs 28), some (qi l1), some (qi l2), some (qi 0)] [] t D Q)
      else
      (Q 0 t D))))) : wp S 184 34 [some (qs 28), some (qi l1), some (qi l2), o3] [] t D Q := vc_ok (cuts := [2, 34, 46]) 600 34 _ _ _ _ h
set_option maxRecDepth 100000 in
theorem b184_46 {S : (Nat → Int32) × Nat} {t : qT} {D : qD} {Q : Int → qT → qD → Prop} {l1 l2 l3 : Int} (h :
chk (qR l3)
(if l3 < 7 then
  (wp S 158 0 [some (qs 28), some (qi l1), some (qi l2), some (qi l3)] [] t D (fun x1 t1 D1 =>
      (chk (qR x1)
        (wp S 183 0 [some (qs 28), some (ql x1), none] [] t1 D1 (fun _ t2 D2 =>
            (wp S 184 46 [some (qs 28), some (qi l1), some (qi l2), some (qi (l3 + 1))] [] t2 D2 Q))))))
  else
  (wp S 184 34 [some (qs 28), some (qi l1), some (qi (l2 + 1)), some (qi l3)] [] t D Q))) : wp S 184 46 [some (qs 28), some (qi l1), some (qi l2), some (qi l3)] [] t D Q := vc_ok (cuts := [2, 34, 46]) 600 46 _ _ _ _ h
/-! 185 X9_sayText -/
set_option maxRecDepth 100000 in
theorem b185_0 {S : (Nat → Int32) × Nat} {t : qT} {D : qD} {Q : Int → qT → qD → Prop} (h :
wp S 185 2 [some (qs 28), some (qi 0)] [] t D Q) : wp S 185 0 [some (qs 28), none] [] t D Q := vc_ok (cuts := [2]) 600 0 _ _ _ _ h
set_option maxRecDepth 100000 in
theorem b185_2 {S : (Nat → Int32) × Nat} {t : qT} {D : qD} {Q : Int → qT → qD → Prop} {l1 : Int} (h :
chk (qR l1)
(if l1 < 15 then
  (chk (0 ≤ l1 ∧ l1 < 2147483648)
    (chk (0 ≤ l1 ∧ l1 < 2147483648)
      (wp S 147 0 [some (qs 28), some (qi (l1 / 3)), some (qi (l1 % 3))] [] t D (fun x1 t1 D1 =>
          (chk (qR x1)
            (wp S 183 0 [some (qs 28), some (ql x1), none] [] t1 D1 (fun _ t2 D2 =>
                (wp S 185 2 [some (qs 28), some (qi (l1 + 1))] [] t2 D2 Q))))))))
  else
  (wp S 152 0 [some (qs 28), none, none] [] t D (fun x3 t3 D3 =>
      (chk (qR x3)
        (wp S 183 0 [some (qs 28), some (ql x3), none] [] t3 D3 (fun _ t4 D4 =>
            (Q 0 t4 D4)))))))) : wp S 185 2 [some (qs 28), some (qi l1)] [] t D Q := vc_ok (cuts := [2]) 600 2 _ _ _ _ h
/-! 186 X9_digest -/
set_option maxRecDepth 100000 in
theorem b186_0 {S : (Nat → Int32) × Nat} {t : qT} {D : qD} {Q : Int → qT → qD → Prop} (h :
wp S 186 9 [some (qs 28), some (qi 0), none] [] t (up D 28 41 1399) Q) : wp S 186 0 [some (qs 28), none, none] [] t D Q := vc_ok (cuts := [9, 30, 40, 71, 121, 154, 181]) 600 0 _ _ _ _ h
set_option maxRecDepth 100000 in
theorem b186_9 {S : (Nat → Int32) × Nat} {t : qT} {D : qD} {Q : Int → qT → qD → Prop} {l1 : Int} (h :
chk (qR l1)
(chk (qR (D 28 14))
  (if l1 < (D 28 14) then
    (wp S 184 0 [some (qs 28), some (qi l1), none, none] [] t D (fun _ t1 D1 =>
        (wp S 186 9 [some (qs 28), some (qi (l1 + 1)), none] [] t1 D1 Q)))
    else
    (wp S 186 30 [some (qs 28), some (qi 0), none] [] t D Q)))) : wp S 186 9 [some (qs 28), some (qi l1), none] [] t D Q := vc_ok (cuts := [9, 30, 40, 71, 121, 154, 181]) 600 9 _ _ _ _ h
set_option maxRecDepth 100000 in
theorem b186_30 {S : (Nat → Int32) × Nat} {t : qT} {D : qD} {Q : Int → qT → qD → Prop} {l1 : Int} {o2 : Option qV} (h :
wp S 133 0 [some (qs 28)] [] t D (fun x1 t1 D1 =>
  (chk (qR l1)
    (chk (qR x1)
      (if l1 < x1 then
        (wp S 186 40 [some (qs 28), some (qi l1), some (qi 0)] [] t1 D1 Q)
        else
        (wp S 186 71 [some (qs 28), some (qi 0), o2] [] t1 D1 Q)))))) : wp S 186 30 [some (qs 28), some (qi l1), o2] [] t D Q := vc_ok (cuts := [9, 30, 40, 71, 121, 154, 181]) 600 30 _ _ _ _ h
set_option maxRecDepth 100000 in
theorem b186_40 {S : (Nat → Int32) × Nat} {t : qT} {D : qD} {Q : Int → qT → qD → Prop} {l1 l2 : Int} (h :
chk (qR l2)
(if l2 < 12 then
  (wp S 162 0 [some (qs 28), some (qi l1), some (qi l2)] [] t D (fun x1 t1 D1 =>
      (chk (qR x1)
        (wp S 183 0 [some (qs 28), some (ql x1), none] [] t1 D1 (fun _ t2 D2 =>
            (wp S 186 40 [some (qs 28), some (qi l1), some (qi (l2 + 1))] [] t2 D2 Q))))))
  else
  (wp S 186 30 [some (qs 28), some (qi (l1 + 1)), some (qi l2)] [] t D Q))) : wp S 186 40 [some (qs 28), some (qi l1), some (qi l2)] [] t D Q := vc_ok (cuts := [9, 30, 40, 71, 121, 154, 181]) 600 40 _ _ _ _ h
set_option maxRecDepth 100000 in
theorem b186_71 {S : (Nat → Int32) × Nat} {t : qT} {D : qD} {Q : Int → qT → qD → Prop} {l1 : Int} {o2 : Option qV} (h :
chk (qR l1)
(if l1 < 4 then
  (chk (0 ≤ (9 + l1) ∧ (9 + l1) < 110)
    (chk (qR (D 42 (9 + l1)))
      (wp S 183 0 [some (qs 28), some (ql (D 42 (9 + l1))), none] [] t D (fun _ t1 D1 =>
          (wp S 186 71 [some (qs 28), some (qi (l1 + 1)), o2] [] t1 D1 Q)))))
  else
  (wp S 128 0 [some (qs 28)] [] t D (fun x2 t2 D2 =>
      (chk (qR x2)
        (if x2 = 0 then
          (wp S 185 0 [some (qs 28), none] [] t2 D2 (fun _ t3 D3 =>
              (chk (qR (D3 42 78))
                (wp S 183 0 [some (qs 28), some (ql (D3 42 78)), none] [] t3 D3 (fun _ t4 D4 =>
                    (wp S 186 121 [some (qs 28), some (qi 0), o2] [] t4 D4 Q))))))
          else
          (chk (qR (D2 42 78))
            (wp S 183 0 [some (qs 28), some (ql (D2 42 78)), none] [] t2 D2 (fun _ t5 D5 =>
                (wp S 186 121 [some (qs 28), some (qi 0), o2] [] t5 D5 Q)))))))))) : wp S 186 71 [some (qs 28), some (qi l1), o2] [] t D Q := vc_ok (cuts := [9, 30, 40, 71, 121, 154, 181]) 600 71 _ _ _ _ h
set_option maxRecDepth 100000 in
theorem b186_121 {S : (Nat → Int32) × Nat} {t : qT} {D : qD} {Q : Int → qT → qD → Prop} {l1 : Int} {o2 : Option qV} (h :
chk (qR l1)
(chk (qR (D 42 78))
  (if l1 < (D 42 78) then
    (chk (0 ≤ (79 + l1) ∧ (79 + l1) < 110)
      (chk (qR (D 42 (79 + l1)))
        (wp S 183 0 [some (qs 28), some (ql (D 42 (79 + l1))), none] [] t D (fun _ t1 D1 =>
            (wp S 186 121 [some (qs 28), some (qi (l1 + 1)), o2] [] t1 D1 Q)))))
    else
    (wp S 186 154 [some (qs 28), some (qi 0), o2] [] t D Q)))) : wp S 186 121 [some (qs 28), some (qi l1), o2] [] t D Q := vc_ok (cuts := [9, 30, 40, 71, 121, 154, 181]) 600 121 _ _ _ _ h
set_option maxRecDepth 100000 in
theorem b186_154 {S : (Nat → Int32) × Nat} {t : qT} {D : qD} {Q : Int → qT → qD → Prop} {l1 : Int} {o2 : Option qV} (h :
chk (qR l1)
(chk (qR (D 28 1))
  (if l1 < (D 28 1) then
    (chk (0 ≤ l1 ∧ l1 < 100)
      (chk (qR (D 29 l1))
        (wp S 183 0 [some (qs 28), some (ql (D 29 l1)), none] [] t D (fun _ t1 D1 =>
            (wp S 186 154 [some (qs 28), some (qi (l1 + 1)), o2] [] t1 D1 Q)))))
    else
    (wp S 186 181 [some (qs 28), some (qi 0), o2] [] t D Q)))) : wp S 186 154 [some (qs 28), some (qi l1), o2] [] t D Q := vc_ok (cuts := [9, 30, 40, 71, 121, 154, 181]) 600 154 _ _ _ _ h
set_option maxRecDepth 100000 in
theorem b186_181 {S : (Nat → Int32) × Nat} {t : qT} {D : qD} {Q : Int → qT → qD → Prop} {l1 : Int} {o2 : Option qV} (h :
chk (qR l1)
(if l1 < 8 then
  (wp S 181 0 [some (qs 28), some (qi l1)] [] t D (fun x1 t1 D1 =>
      (chk (qR x1)
        (wp S 183 0 [some (qs 28), some (ql x1), none] [] t1 D1 (fun _ t2 D2 =>
            (wp S 186 181 [some (qs 28), some (qi (l1 + 1)), o2] [] t2 D2 Q))))))
  else
  (Q (D 28 41) t D))) : wp S 186 181 [some (qs 28), some (qi l1), o2] [] t D Q := vc_ok (cuts := [9, 30, 40, 71, 121, 154, 181]) 600 181 _ _ _ _ h
