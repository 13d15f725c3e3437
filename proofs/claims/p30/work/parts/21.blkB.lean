/-! blocks, written by wip/whole/mkblk.py: what each stretch of a method asks -/
/-! 43 X5_init -/
set_option maxRecDepth 100000 in
theorem b43_0 {S : (Nat → Int32) × Nat} {t : qT} {D : qD} {Q : Int → qT → qD → Prop} {a : Nat} (h :
chk ((t.1 a).1 ≠ 8 ∧ 0 ≤ 8)
(chk ((t.1 a).1 = 5)
  (wp S 41 9 [some (qr a)] [] t (up D a 0 0) Q))) : wp S 41 0 [some (qr a)] [] t D Q := vc_ok (cuts := [9, 14, 19, 24, 29, 34]) 600 0 _ _ _ _ h
set_option maxRecDepth 100000 in
theorem b43_9 {S : (Nat → Int32) × Nat} {t : qT} {D : qD} {Q : Int → qT → qD → Prop} {a : Nat} (h :
chk ((t.1 a).1 = 5)
(wp S 41 14 [some (qr a)] [] t (up D a 1 1) Q)) : wp S 41 9 [some (qr a)] [] t D Q := vc_ok (cuts := [9, 14, 19, 24, 29, 34]) 600 9 _ _ _ _ h
set_option maxRecDepth 100000 in
theorem b43_14 {S : (Nat → Int32) × Nat} {t : qT} {D : qD} {Q : Int → qT → qD → Prop} {a : Nat} (h :
chk ((t.1 a).1 = 5)
(wp S 41 19 [some (qr a)] [] t (up D a 2 0) Q)) : wp S 41 14 [some (qr a)] [] t D Q := vc_ok (cuts := [9, 14, 19, 24, 29, 34]) 600 14 _ _ _ _ h
set_option maxRecDepth 100000 in
theorem b43_19 {S : (Nat → Int32) × Nat} {t : qT} {D : qD} {Q : Int → qT → qD → Prop} {a : Nat} (h :
chk ((t.1 a).1 = 5)
(wp S 41 24 [some (qr a)] [] t (up D a 3 0) Q)) : wp S 41 19 [some (qr a)] [] t D Q := vc_ok (cuts := [9, 14, 19, 24, 29, 34]) 600 19 _ _ _ _ h
set_option maxRecDepth 100000 in
theorem b43_24 {S : (Nat → Int32) × Nat} {t : qT} {D : qD} {Q : Int → qT → qD → Prop} {a : Nat} (h :
chk ((t.1 a).1 = 5)
(wp S 41 29 [some (qr a)] [] t (up D a 4 0) Q)) : wp S 41 24 [some (qr a)] [] t D Q := vc_ok (cuts := [9, 14, 19, 24, 29, 34]) 600 24 _ _ _ _ h
set_option maxRecDepth 100000 in
theorem b43_29 {S : (Nat → Int32) × Nat} {t : qT} {D : qD} {Q : Int → qT → qD → Prop} {a : Nat} (h :
chk ((t.1 a).1 = 5)
(wp S 41 34 [some (qr a)] [] t (up D a 5 0) Q)) : wp S 41 29 [some (qr a)] [] t D Q := vc_ok (cuts := [9, 14, 19, 24, 29, 34]) 600 29 _ _ _ _ h
set_option maxRecDepth 100000 in
theorem b43_34 {S : (Nat → Int32) × Nat} {t : qT} {D : qD} {Q : Int → qT → qD → Prop} {a : Nat} (h :
chk ((t.1 a).1 = 5)
(Q 0 t (up D a 6 0))) : wp S 41 34 [some (qr a)] [] t D Q := vc_ok (cuts := [9, 14, 19, 24, 29, 34]) 600 34 _ _ _ _ h
/-! 44 X5_firstFault -/
set_option maxRecDepth 100000 in
theorem b44_0 {S : (Nat → Int32) × Nat} {t : qT} {D : qD} {Q : Int → qT → qD → Prop} {a : Nat} (h :
wp S 42 2 [some (qr a), some (qs 1), some (qi 0)] [] t D Q) : wp S 42 0 [some (qr a), some (qs 1), none] [] t D Q := vc_ok (cuts := [2]) 600 0 _ _ _ _ h
set_option maxRecDepth 100000 in
theorem b44_2 {S : (Nat → Int32) × Nat} {t : qT} {D : qD} {Q : Int → qT → qD → Prop} {l2 : Int} {a : Nat} (h :
chk (qR l2)
(chk (qR (D 1 1))
  (if l2 < (D 1 1) then
    (wp S 39 0 [some (qs 1), some (qi l2)] [] t D (fun x1 t1 D1 =>
        (chk ((t1.1 a).1 = 5)
          (wp S 44 0 [some (qr a), some (qi x1)] [] t1 D1 (fun x2 t2 D2 =>
              (chk (qR x2)
                (if x2 = 0 then
                  (Q l2 t2 D2)
                  else
                  (wp S 42 2 [some (qr a), some (qs 1), some (qi (l2 + 1))] [] t2 D2 Q))))))))
    else
    (Q (D 1 1) t D)))) : wp S 42 2 [some (qr a), some (qs 1), some (qi l2)] [] t D Q := vc_ok (cuts := [2]) 600 2 _ _ _ _ h
/-! 45 X5_mayEnd -/
set_option maxRecDepth 100000 in
theorem b45_0 {S : (Nat → Int32) × Nat} {t : qT} {D : qD} {Q : Int → qT → qD → Prop} {a : Nat} (h :
chk ((t.1 a).1 = 5)
(chk (qR (D a 0))
  (if (D a 0) = 5 then
    (Q 1 t D)
    else
    (Q 0 t D)))) : wp S 43 0 [some (qr a)] [] t D Q := vc_ok (cuts := []) 600 0 _ _ _ _ h
/-! 46 X5_takes -/
set_option maxRecDepth 100000 in
theorem b46_0 {S : (Nat → Int32) × Nat} {t : qT} {D : qD} {Q : Int → qT → qD → Prop} {l1 : Int} {a : Nat} (h :
chk ((t.1 a).1 = 5)
(chk (qR (D a 0))
  (if (D a 0) = 0 then
    (chk ((t.1 a).1 = 5)
      (wp S 45 0 [some (qr a), some (qi l1)] [] t D (fun x1 t1 D1 =>
          (chk (x1 = 0 ∨ x1 = 1)
            (Q x1 t1 D1)))))
    else
    (if (D a 0) = 1 then
      (chk ((t.1 a).1 = 5)
        (wp S 47 0 [some (qr a), some (qi (l1 - 48))] [] t D (fun x2 t2 D2 =>
            (chk (x2 = 0 ∨ x2 = 1)
              (Q x2 t2 D2)))))
      else
      (if (D a 0) = 2 then
        (chk ((t.1 a).1 = 5)
          (wp S 48 0 [some (qr a), some (qi l1), some (qi 0), some (qi 3), some (qi 3), none] [] t D (fun x3 t3 D3 =>
              (chk (x3 = 0 ∨ x3 = 1)
                (Q x3 t3 D3)))))
        else
        (if (D a 0) = 3 then
          (chk ((t.1 a).1 = 5)
            (wp S 48 0 [some (qr a), some (qi l1), some (qi 0), some (qi 5), some (qi 0), none] [] t D (fun x4 t4 D4 =>
                (chk (x4 = 0 ∨ x4 = 1)
                  (Q x4 t4 D4)))))
          else
          (if (D a 0) = 4 then
            (chk ((t.1 a).1 = 5)
              (wp S 48 0 [some (qr a), some (qi l1), some (qi 0), some (qi 3), some (qi 0), none] [] t D (fun x5 t5 D5 =>
                  (chk (x5 = 0 ∨ x5 = 1)
                    (Q x5 t5 D5)))))
            else
            (if (D a 0) = 5 then
              (chk ((t.1 a).1 = 5)
                (wp S 49 0 [some (qr a), some (qi l1)] [] t D (fun x6 t6 D6 =>
                    (chk (x6 = 0 ∨ x6 = 1)
                      (Q x6 t6 D6)))))
              else
              (if (D a 0) = 6 then
                (chk ((t.1 a).1 = 5)
                  (chk ((t.1 a).1 = 5)
                    (wp S 48 0 [some (qr a), some (qi l1), some (qi 0), some (qi 9), some (qi 7), none] [] t (up D a 6 (l1 - 48)) (fun x7 t7 D7 =>
                        (chk (x7 = 0 ∨ x7 = 1)
                        (Q x7 t7 D7))))))
                else
                (if (D a 0) = 7 then
                  (chk ((t.1 a).1 = 5)
                    (chk ((t.1 a).1 = 5)
                      (wp S 48 0 [some (qr a), some (qi l1), some (qi (D a 6)), some (qi 9), some (qi 8), none] [] t D (fun x8 t8 D8 =>
                        (chk (x8 = 0 ∨ x8 = 1)
                        (Q x8 t8 D8))))))
                  else
                  (if (D a 0) = 8 then
                    (chk ((t.1 a).1 = 5)
                      (wp S 48 0 [some (qr a), some (qi l1), some (qi 0), some (qi 4), some (qi 9), none] [] t D (fun x9 t9 D9 =>
                        (chk (x9 = 0 ∨ x9 = 1)
                        (Q x9 t9 D9)))))
                    else
                    (chk ((t.1 a).1 = 5)
                      (wp S 48 0 [some (qr a), some (qi l1), some (qi 0), some (qi 9), some (qi 5), none] [] t D (fun x10 t10 D10 =>
                        (chk (x10 = 0 ∨ x10 = 1)
                        (Q x10 t10 D10)))))))))))))))) : wp S 44 0 [some (qr a), some (qi l1)] [] t D Q := vc_ok (cuts := []) 600 0 _ _ _ _ h
/-! 47 X5_takesOp -/
set_option maxRecDepth 100000 in
theorem b47_0 {S : (Nat → Int32) × Nat} {t : qT} {D : qD} {Q : Int → qT → qD → Prop} {l1 : Int} {a : Nat} (h :
chk (qR l1)
(if l1 = 59 then
  (chk ((t.1 a).1 = 5)
    (Q 1 t (up D a 0 5)))
  else
  (chk ((t.1 a).1 = 5)
    (chk ((t.1 a).1 = 5)
      (chk ((t.1 a).1 = 5)
        (chk (qR ((up D a 2 ((D a 2) + 1)) a 2))
          (if 8 < ((up D a 2 ((D a 2) + 1)) a 2) then
            (Q 0 t (up D a 2 ((D a 2) + 1)))
            else
            (chk ((t.1 a).1 = 5)
              (wp S 46 0 [some (qr a), some (qi l1)] [] t (up D a 2 ((D a 2) + 1)) (fun x1 t1 D1 =>
                  (chk (qR x1)
                    (if x1 = 0 then
                      (Q 0 t1 D1)
                      else
                      (Q 1 t1 D1))))))))))))) : wp S 45 0 [some (qr a), some (qi l1)] [] t D Q := vc_ok (cuts := []) 600 0 _ _ _ _ h
/-! 48 X5_takesOpLetter -/
set_option maxRecDepth 100000 in
theorem b48_0 {S : (Nat → Int32) × Nat} {t : qT} {D : qD} {Q : Int → qT → qD → Prop} {l1 : Int} {a : Nat} (h :
chk (qR l1)
(if l1 = 43 then
  (chk ((t.1 a).1 = 5)
    (Q 1 t (up D a 0 1)))
  else
  (if l1 = 98 then
    (chk ((t.1 a).1 = 5)
      (chk ((t.1 a).1 = 5)
        (chk ((t.1 a).1 = 5)
          (chk (qR ((up D a 4 ((D a 4) - 1)) a 4))
            (if ((up D a 4 ((D a 4) - 1)) a 4) < 0 then
              (Q 0 t (up D a 4 ((D a 4) - 1)))
              else
              (Q 1 t (up D a 4 ((D a 4) - 1))))))))
    else
    (if l1 = 109 then
      (chk ((t.1 a).1 = 5)
        (chk ((t.1 a).1 = 5)
          (chk ((t.1 a).1 = 5)
            (chk (qR ((up D a 4 ((D a 4) + 1)) a 4))
              (if 3 < ((up D a 4 ((D a 4) + 1)) a 4) then
                (Q 0 t (up D a 4 ((D a 4) + 1)))
                else
                (Q 1 t (up D a 4 ((D a 4) + 1))))))))
      else
      (if l1 = 115 then
        (chk ((t.1 a).1 = 5)
          (Q 1 t (up D a 0 2)))
        else
        (if l1 = 117 then
          (chk ((t.1 a).1 = 5)
            (Q 1 t (up D a 0 4)))
          else
          (Q 0 t D))))))) : wp S 46 0 [some (qr a), some (qi l1)] [] t D Q := vc_ok (cuts := []) 600 0 _ _ _ _ h
/-! 49 X5_takesFarther -/
set_option maxRecDepth 100000 in
theorem b49_0 {S : (Nat → Int32) × Nat} {t : qT} {D : qD} {Q : Int → qT → qD → Prop} {l1 : Int} {a : Nat} (h :
chk (qR l1)
(if l1 < 1 then
  (Q 0 t D)
  else
  (chk ((t.1 a).1 = 5)
    (chk (qR ((D a 3) + l1))
      (if ((D a 3) + l1) < 10 then
        (chk ((t.1 a).1 = 5)
          (chk ((t.1 a).1 = 5)
            (chk ((t.1 a).1 = 5)
              (Q 1 t (up (up D a 3 ((D a 3) + l1)) a 0 0)))))
        else
        (Q 0 t D)))))) : wp S 47 0 [some (qr a), some (qi l1)] [] t D Q := vc_ok (cuts := []) 600 0 _ _ _ _ h
/-! 50 X5_takesDigit -/
set_option maxRecDepth 100000 in
theorem b50_0 {S : (Nat → Int32) × Nat} {t : qT} {D : qD} {Q : Int → qT → qD → Prop} {l1 l2 l3 l4 : Int} {a : Nat} (h :
chk ((t.1 a).1 = 5)
(chk (qR (l1 - 48))
  (chk (qR l2)
    (if (l1 - 48) < l2 then
      (Q 0 t (up D a 0 l4))
      else
      (chk (qR (l1 - 48))
        (chk (qR l3)
          (if l3 < (l1 - 48) then
            (Q 0 t (up D a 0 l4))
            else
            (Q 1 t (up D a 0 l4))))))))) : wp S 48 0 [some (qr a), some (qi l1), some (qi l2), some (qi l3), some (qi l4), none] [] t D Q := vc_ok (cuts := []) 600 0 _ _ _ _ h
/-! 51 X5_takesBetweenPads -/
set_option maxRecDepth 100000 in
theorem b51_0 {S : (Nat → Int32) × Nat} {t : qT} {D : qD} {Q : Int → qT → qD → Prop} {l1 : Int} {a : Nat} (h :
chk (qR l1)
(if l1 = 47 then
  (chk ((t.1 a).1 = 5)
    (wp S 50 0 [some (qr a)] [] t D (fun _ t1 D1 =>
        (chk ((t1.1 a).1 = 5)
          (chk (qR (D1 a 1))
            (if 3 < (D1 a 1) then
              (Q 0 t1 D1)
              else
              (Q 1 t1 D1)))))))
  else
  (chk ((t.1 a).1 = 5)
    (chk ((t.1 a).1 = 5)
      (chk ((t.1 a).1 = 5)
        (chk ((t.1 a).1 = 5)
          (chk (qR ((up (up D a 5 ((D a 5) + 1)) a 0 6) a 5))
            (if 3 < ((up (up D a 5 ((D a 5) + 1)) a 0 6) a 5) then
              (Q 0 t (up (up D a 5 ((D a 5) + 1)) a 0 6))
              else
              (wp S 90 0 [some (qi l1)] [] t (up (up D a 5 ((D a 5) + 1)) a 0 6) (fun x2 t2 D2 =>
                  (chk (qR x2)
                    (if x2 = (-1) then
                      (Q 0 t2 D2)
                      else
                      (Q 1 t2 D2))))))))))))) : wp S 49 0 [some (qr a), some (qi l1)] [] t D Q := vc_ok (cuts := []) 600 0 _ _ _ _ h
/-! 52 X5_beginFunction -/
set_option maxRecDepth 100000 in
theorem b52_0 {S : (Nat → Int32) × Nat} {t : qT} {D : qD} {Q : Int → qT → qD → Prop} {a : Nat} (h :
chk ((t.1 a).1 = 5)
(chk ((t.1 a).1 = 5)
  (chk ((t.1 a).1 = 5)
    (chk ((t.1 a).1 = 5)
      (chk ((t.1 a).1 = 5)
        (chk ((t.1 a).1 = 5)
          (chk ((t.1 a).1 = 5)
            (Q 0 t (up (up (up (up (up (up D a 1 ((D a 1) + 1)) a 0 0) a 2 0) a 3 0) a 4 0) a 5 0))))))))) : wp S 50 0 [some (qr a)] [] t D Q := vc_ok (cuts := []) 600 0 _ _ _ _ h
/-! 53 X6_init -/
set_option maxRecDepth 100000 in
theorem b53_0 {S : (Nat → Int32) × Nat} {t : qT} {D : qD} {Q : Int → qT → qD → Prop} {a l2 : Nat} (h :
chk ((t.1 a).1 ≠ 8 ∧ 0 ≤ 8)
(chk (((nwT t.1 t.2.2.1 (10, 4)) a).1 = 6)
  (chk (qsP a 2 = none)
    (wp S 51 11 [some (qr a), some (qs 1), some (qr l2)] [] ((nwT t.1 t.2.2.1 (10, 4)), (upP (nwP t.2.1 t.2.2.1) a 2 t.2.2.1), ((t.2.2.1 + 1), (t.2.2.2 + 4))) (upr D t.2.2.1 (fun _ => 0)) Q)))) : wp S 51 0 [some (qr a), some (qs 1), some (qr l2)] [] t D Q := vc_ok (cuts := [11, 19, 24, 29, 34, 39, 44]) 600 0 _ _ _ _ h
set_option maxRecDepth 100000 in
theorem b53_11 {S : (Nat → Int32) × Nat} {t : qT} {D : qD} {Q : Int → qT → qD → Prop} {a l2 : Nat} (h :
chk (((nwT t.1 t.2.2.1 (10, 12)) a).1 = 6)
(chk (qsP a 3 = none)
  (wp S 51 19 [some (qr a), some (qs 1), some (qr l2)] [] ((nwT t.1 t.2.2.1 (10, 12)), (upP (nwP t.2.1 t.2.2.1) a 3 t.2.2.1), ((t.2.2.1 + 1), (t.2.2.2 + 12))) (upr D t.2.2.1 (fun _ => 0)) Q))) : wp S 51 11 [some (qr a), some (qs 1), some (qr l2)] [] t D Q := vc_ok (cuts := [11, 19, 24, 29, 34, 39, 44]) 600 11 _ _ _ _ h
set_option maxRecDepth 100000 in
theorem b53_19 {S : (Nat → Int32) × Nat} {t : qT} {D : qD} {Q : Int → qT → qD → Prop} {a l2 : Nat} (h :
chk ((t.1 a).1 = 6)
(wp S 51 24 [some (qr a), some (qs 1), some (qr l2)] [] t (up D a 4 0) Q)) : wp S 51 19 [some (qr a), some (qs 1), some (qr l2)] [] t D Q := vc_ok (cuts := [11, 19, 24, 29, 34, 39, 44]) 600 19 _ _ _ _ h
set_option maxRecDepth 100000 in
theorem b53_24 {S : (Nat → Int32) × Nat} {t : qT} {D : qD} {Q : Int → qT → qD → Prop} {a l2 : Nat} (h :
chk ((t.1 a).1 = 6)
(wp S 51 29 [some (qr a), some (qs 1), some (qr l2)] [] t (up D a 5 0) Q)) : wp S 51 24 [some (qr a), some (qs 1), some (qr l2)] [] t D Q := vc_ok (cuts := [11, 19, 24, 29, 34, 39, 44]) 600 24 _ _ _ _ h
set_option maxRecDepth 100000 in
theorem b53_29 {S : (Nat → Int32) × Nat} {t : qT} {D : qD} {Q : Int → qT → qD → Prop} {a l2 : Nat} (h :
chk ((t.1 a).1 = 6)
(wp S 51 34 [some (qr a), some (qs 1), some (qr l2)] [] t (up D a 6 0) Q)) : wp S 51 29 [some (qr a), some (qs 1), some (qr l2)] [] t D Q := vc_ok (cuts := [11, 19, 24, 29, 34, 39, 44]) 600 29 _ _ _ _ h
set_option maxRecDepth 100000 in
theorem b53_34 {S : (Nat → Int32) × Nat} {t : qT} {D : qD} {Q : Int → qT → qD → Prop} {a l2 : Nat} (h :
chk ((t.1 a).1 = 6)
(wp S 51 39 [some (qr a), some (qs 1), some (qr l2)] [] t (up D a 7 0) Q)) : wp S 51 34 [some (qr a), some (qs 1), some (qr l2)] [] t D Q := vc_ok (cuts := [11, 19, 24, 29, 34, 39, 44]) 600 34 _ _ _ _ h
set_option maxRecDepth 100000 in
theorem b53_39 {S : (Nat → Int32) × Nat} {t : qT} {D : qD} {Q : Int → qT → qD → Prop} {a l2 : Nat} (h :
chk ((t.1 a).1 = 6)
(chk (qsP a 0 = none ∧ 1 ≠ 0)
  (wp S 51 44 [some (qr a), some (qs 1), some (qr l2)] [] (t.1, (upP t.2.1 a 0 1), t.2.2) D Q))) : wp S 51 39 [some (qr a), some (qs 1), some (qr l2)] [] t D Q := vc_ok (cuts := [11, 19, 24, 29, 34, 39, 44]) 600 39 _ _ _ _ h
set_option maxRecDepth 100000 in
theorem b53_44 {S : (Nat → Int32) × Nat} {t : qT} {D : qD} {Q : Int → qT → qD → Prop} {a l2 : Nat} (h :
chk ((t.1 a).1 = 6)
(chk (qsP a 1 = none)
  (Q 0 (t.1, (upP t.2.1 a 1 l2), t.2.2) D))) : wp S 51 44 [some (qr a), some (qs 1), some (qr l2)] [] t D Q := vc_ok (cuts := [11, 19, 24, 29, 34, 39, 44]) 600 44 _ _ _ _ h
/-! 54 X6_writeText -/
set_option maxRecDepth 100000 in
theorem b54_0 {S : (Nat → Int32) × Nat} {t : qT} {D : qD} {Q : Int → qT → qD → Prop} {a : Nat} (h :
wp S 52 2 [some (qr a), some (qi 0)] [] t D Q) : wp S 52 0 [some (qr a), none] [] t D Q := vc_ok (cuts := [2]) 600 0 _ _ _ _ h
set_option maxRecDepth 100000 in
theorem b54_2 {S : (Nat → Int32) × Nat} {t : qT} {D : qD} {Q : Int → qT → qD → Prop} {l1 : Int} {a : Nat} (h :
chk (qR l1)
(if l1 < 3 then
  (chk ((t.1 a).1 = 6)
    (chk ((t.1 a).1 = 6)
      (chk ((t.1 (t.2.1 a 0)).1 = 4)
        (chk (qR (D a 5))
          (chk (qR (D (t.2.1 a 0) 1))
            (if (D a 5) < (D (t.2.1 a 0) 1) then
              (chk ((t.1 a).1 = 6)
                (wp S 53 0 [some (qr a), some (qi l1), none] [] t D (fun _ t1 D1 =>
                    (chk ((t1.1 a).1 = 6)
                      (chk ((t1.1 a).1 = 6)
                        (chk ((t1.1 a).1 = 6)
                        (wp S 59 0 [some (qr a), some (qi l1), none, none] [] t1 (up D1 a 5 ((D1 a 5) + 1)) (fun _ t2 D2 =>
                        (chk ((t2.1 a).1 = 6)
                        (chk ((t2.1 a).1 = 6)
                        (chk ((t2.1 a).1 = 6)
                        (chk ((t2.1 (t2.2.1 a 1)).1 = 0)
                        (chk ((t2.1 (t2.2.1 a 1)).1 = 0)
                        (wp S 52 2 [some (qr a), some (qi (l1 + 1))] [] t2 (up (up D2 a 5 ((D2 a 5) + 1)) (t2.2.1 a 1) 0 (((up D2 a 5 ((D2 a 5) + 1)) (t2.2.1 a 1) 0) + 1)) Q))))))))))))))
              else
              (Q 0 t D)))))))
  else
  (Q 0 t D))) : wp S 52 2 [some (qr a), some (qi l1)] [] t D Q := vc_ok (cuts := [2]) 600 2 _ _ _ _ h
/-! 55 X6_writeProgram -/
set_option maxRecDepth 100000 in
theorem b55_0 {S : (Nat → Int32) × Nat} {t : qT} {D : qD} {Q : Int → qT → qD → Prop} {l1 : Int} {a : Nat} (h :
chk ((t.1 a).1 = 6)
(wp S 95 0 [some (qr (t.2.1 a 2)), some (qi (-1)), none, none] [] t D (fun _ t1 D1 =>
    (chk ((t1.1 a).1 = 6)
      (chk ((t1.1 a).1 = 6)
        (chk ((t1.1 a).1 = 6)
          (wp S 53 25 [some (qr a), some (qi l1), some (qi 0)] [] t1 (up (up (up D1 a 4 0) a 6 0) a 7 0) Q))))))) : wp S 53 0 [some (qr a), some (qi l1), none] [] t D Q := vc_ok (cuts := [25]) 600 0 _ _ _ _ h
set_option maxRecDepth 100000 in
theorem b55_25 {S : (Nat → Int32) × Nat} {t : qT} {D : qD} {Q : Int → qT → qD → Prop} {l1 l2 : Int} {a : Nat} (h :
chk (qR l2)
(if l2 < 8 then
  (chk ((t.1 a).1 = 6)
    (chk ((t.1 a).1 = 6)
      (chk ((t.1 (t.2.1 a 0)).1 = 4)
        (wp S 39 0 [some (qr (t.2.1 a 0)), some (qi (D a 5))] [] t D (fun x1 t1 D1 =>
            (chk (qR x1)
              (if x1 = 59 then
                (chk ((t1.1 a).1 = 6)
                  (wp S 58 0 [some (qr a), some (qi l1), some (qi 10), none, none] [] t1 D1 (fun _ t2 D2 =>
                      (Q 0 t2 D2))))
                else
                (chk ((t1.1 a).1 = 6)
                  (wp S 54 0 [some (qr a), some (qi l1), none, none] [] t1 D1 (fun _ t3 D3 =>
                      (wp S 53 25 [some (qr a), some (qi l1), some (qi (l2 + 1))] [] t3 D3 Q)))))))))))
  else
  (chk ((t.1 a).1 = 6)
    (wp S 58 0 [some (qr a), some (qi l1), some (qi 10), none, none] [] t D (fun _ t4 D4 =>
        (Q 0 t4 D4)))))) : wp S 53 25 [some (qr a), some (qi l1), some (qi l2)] [] t D Q := vc_ok (cuts := [25]) 600 25 _ _ _ _ h
/-! 56 X6_writeOp -/
set_option maxRecDepth 100000 in
theorem b56_0 {S : (Nat → Int32) × Nat} {t : qT} {D : qD} {Q : Int → qT → qD → Prop} {l1 : Int} {a : Nat} (h :
chk ((t.1 a).1 = 6)
(chk ((t.1 a).1 = 6)
  (chk ((t.1 (t.2.1 a 0)).1 = 4)
    (wp S 39 0 [some (qr (t.2.1 a 0)), some (qi (D a 5))] [] t D (fun x1 t1 D1 =>
        (chk ((t1.1 a).1 = 6)
          (chk ((t1.1 a).1 = 6)
            (chk ((t1.1 (t1.2.1 a 0)).1 = 4)
              (wp S 40 0 [some (qr (t1.2.1 a 0)), some (qi ((D1 a 5) + 1))] [] t1 D1 (fun x2 t2 D2 =>
                  (chk (qR x1)
                    (if x1 = 43 then
                      (chk ((t2.1 a).1 = 6)
                        (chk ((t2.1 a).1 = 6)
                        (wp S 58 0 [some (qr a), some (qi l1), some (qi ((D2 a 6) + x2)), none, none] [] t2 D2 (fun _ t3 D3 =>
                        (chk ((t3.1 a).1 = 6)
                        (chk ((t3.1 a).1 = 6)
                        (Q 0 t3 (up D3 a 5 ((D3 a 5) + 2)))))))))
                      else
                      (chk ((t2.1 a).1 = 6)
                        (chk ((t2.1 a).1 = 6)
                        (chk (qR x1)
                        (if x1 = 115 then
                        (chk ((t2.1 a).1 = 6)
                        (chk ((t2.1 a).1 = 6)
                        (chk ((t2.1 (t2.2.1 a 0)).1 = 4)
                        (wp S 40 0 [some (qr (t2.2.1 a 0)), some (qi (((up D2 a 7 (D2 a 6)) a 5) + 2))] [] t2 (up D2 a 7 (D2 a 6)) (fun x4 t4 D4 =>
                        (chk ((t4.1 a).1 = 6)
                        (wp S 55 0 [some (qr a), some (qi l1), some (qi x2), some (qi x4)] [] t4 D4 (fun _ t5 D5 =>
                        (chk ((t5.1 a).1 = 6)
                        (chk ((t5.1 a).1 = 6)
                        (Q 0 t5 (up D5 a 5 ((D5 a 5) + 3)))))))))))))
                        else
                        (chk (qR x1)
                        (if x1 = 117 then
                        (chk ((t2.1 a).1 = 6)
                        (wp S 56 0 [some (qr a), some (qi x2)] [] t2 (up D2 a 7 (D2 a 6)) (fun _ t6 D6 =>
                        (chk ((t6.1 a).1 = 6)
                        (chk ((t6.1 a).1 = 6)
                        (Q 0 t6 (up D6 a 5 ((D6 a 5) + 2))))))))
                        else
                        (chk ((t2.1 a).1 = 6)
                        (wp S 57 0 [some (qr a), some (qi x1)] [] t2 (up D2 a 7 (D2 a 6)) (fun _ t7 D7 =>
                        (chk ((t7.1 a).1 = 6)
                        (chk ((t7.1 a).1 = 6)
                        (Q 0 t7 (up D7 a 5 ((D7 a 5) + 1)))))))))))))))))))))))))) : wp S 54 0 [some (qr a), some (qi l1), none, none] [] t D Q := vc_ok (cuts := []) 600 0 _ _ _ _ h
/-! 57 X6_save -/
set_option maxRecDepth 100000 in
theorem b57_0 {S : (Nat → Int32) × Nat} {t : qT} {D : qD} {Q : Int → qT → qD → Prop} {l1 l2 l3 : Int} {a : Nat} (h :
wp S 88 0 [some (qi l2), some (qi 4)] [] t D (fun x1 t1 D1 =>
  (chk (qR x1)
    (if x1 = 0 then
      (Q 0 t1 D1)
      else
      (wp S 88 0 [some (qi l3), some (qi 6)] [] t1 D1 (fun x2 t2 D2 =>
          (chk (qR x2)
            (if x2 = 0 then
              (Q 0 t2 D2)
              else
              (chk ((t2.1 a).1 = 6)
                (chk ((t2.1 (t2.2.1 a 2)).1 = 10)
                  (chk (0 ≤ l2 ∧ l2 < (t2.1 (t2.2.1 a 2)).2)
                    (chk ((t2.1 a).1 = 6)
                      (chk ((t2.1 a).1 = 6)
                        (chk ((t2.1 (t2.2.1 a 1)).1 = 0)
                        (wp S 11 0 [some (qr (t2.2.1 a 1)), some (qi l1), some (qi ((up D2 (t2.2.1 a 2) l2 l3) a 6)), some (qi l2), some (qi l3), none] [] t2 (up D2 (t2.2.1 a 2) l2 l3) (fun _ t3 D3 =>
                        (Q 0 t3 D3))))))))))))))))) : wp S 55 0 [some (qr a), some (qi l1), some (qi l2), some (qi l3)] [] t D Q := vc_ok (cuts := []) 600 0 _ _ _ _ h
/-! 58 X6_free -/
set_option maxRecDepth 100000 in
theorem b58_0 {S : (Nat → Int32) × Nat} {t : qT} {D : qD} {Q : Int → qT → qD → Prop} {l1 : Int} {a : Nat} (h :
wp S 88 0 [some (qi l1), some (qi 4)] [] t D (fun x1 t1 D1 =>
  (chk (qR x1)
    (if x1 = 0 then
      (Q 0 t1 D1)
      else
      (chk ((t1.1 a).1 = 6)
        (chk ((t1.1 (t1.2.1 a 2)).1 = 10)
          (chk (0 ≤ l1 ∧ l1 < (t1.1 (t1.2.1 a 2)).2)
            (Q 0 t1 (up D1 (t1.2.1 a 2) l1 (-1)))))))))) : wp S 56 0 [some (qr a), some (qi l1)] [] t D Q := vc_ok (cuts := []) 600 0 _ _ _ _ h
/-! 59 X6_rememberOrGoBack -/
set_option maxRecDepth 100000 in
theorem b59_0 {S : (Nat → Int32) × Nat} {t : qT} {D : qD} {Q : Int → qT → qD → Prop} {l1 : Int} {a : Nat} (h :
chk (qR l1)
(if l1 = 109 then
  (chk ((t.1 a).1 = 6)
    (chk (qR (D a 4))
      (if (D a 4) < 3 then
        (chk ((t.1 a).1 = 6)
          (chk ((t.1 a).1 = 6)
            (chk ((t.1 a).1 = 6)
              (chk ((t.1 (t.2.1 a 3)).1 = 10)
                (chk ((t.1 (t.2.1 a 2)).1 = 10)
                  (chk ((0 : Int) ≤ 0 ∧ (0 : Int) ≤ ((D a 4) * 4) ∧ (0 : Int) ≤ 4 ∧ (0 + 4) ≤ (t.1 (t.2.1 a 2)).2 ∧ (((D a 4) * 4) + 4) ≤ (t.1 (t.2.1 a 3)).2)
                    (chk ((t.1 a).1 = 6)
                      (chk ((t.1 a).1 = 6)
                        (Q 0 t (up (upr D (t.2.1 a 3) (q_cp (D (t.2.1 a 2)) (D (t.2.1 a 3)) 0 ((D a 4) * 4) 4)) a 4 (((upr D (t.2.1 a 3) (q_cp (D (t.2.1 a 2)) (D (t.2.1 a 3)) 0 ((D a 4) * 4) 4)) a 4) + 1)))))))))))
        else
        (chk (qR l1)
          (if l1 = 98 then
            (chk ((t.1 a).1 = 6)
              (chk (qR (D a 4))
                (if 0 < (D a 4) then
                  (chk ((t.1 a).1 = 6)
                    (chk ((t.1 a).1 = 6)
                      (chk ((t.1 a).1 = 6)
                        (chk ((t.1 a).1 = 6)
                        (chk ((t.1 a).1 = 6)
                        (chk ((t.1 (t.2.1 a 2)).1 = 10)
                        (chk ((t.1 (t.2.1 a 3)).1 = 10)
                        (chk ((0 : Int) ≤ (((up D a 4 ((D a 4) - 1)) a 4) * 4) ∧ (0 : Int) ≤ 0 ∧ (0 : Int) ≤ 4 ∧ ((((up D a 4 ((D a 4) - 1)) a 4) * 4) + 4) ≤ (t.1 (t.2.1 a 3)).2 ∧ (0 + 4) ≤ (t.1 (t.2.1 a 2)).2)
                        (Q 0 t (upr (up D a 4 ((D a 4) - 1)) (t.2.1 a 2) (q_cp ((up D a 4 ((D a 4) - 1)) (t.2.1 a 3)) ((up D a 4 ((D a 4) - 1)) (t.2.1 a 2)) (((up D a 4 ((D a 4) - 1)) a 4) * 4) 0 4)))))))))))
                  else
                  (Q 0 t D))))
            else
            (Q 0 t D))))))
  else
  (chk (qR l1)
    (if l1 = 98 then
      (chk ((t.1 a).1 = 6)
        (chk (qR (D a 4))
          (if 0 < (D a 4) then
            (chk ((t.1 a).1 = 6)
              (chk ((t.1 a).1 = 6)
                (chk ((t.1 a).1 = 6)
                  (chk ((t.1 a).1 = 6)
                    (chk ((t.1 a).1 = 6)
                      (chk ((t.1 (t.2.1 a 2)).1 = 10)
                        (chk ((t.1 (t.2.1 a 3)).1 = 10)
                        (chk ((0 : Int) ≤ (((up D a 4 ((D a 4) - 1)) a 4) * 4) ∧ (0 : Int) ≤ 0 ∧ (0 : Int) ≤ 4 ∧ ((((up D a 4 ((D a 4) - 1)) a 4) * 4) + 4) ≤ (t.1 (t.2.1 a 3)).2 ∧ (0 + 4) ≤ (t.1 (t.2.1 a 2)).2)
                        (Q 0 t (upr (up D a 4 ((D a 4) - 1)) (t.2.1 a 2) (q_cp ((up D a 4 ((D a 4) - 1)) (t.2.1 a 3)) ((up D a 4 ((D a 4) - 1)) (t.2.1 a 2)) (((up D a 4 ((D a 4) - 1)) a 4) * 4) 0 4)))))))))))
            else
            (Q 0 t D))))
      else
      (Q 0 t D))))) : wp S 57 0 [some (qr a), some (qi l1)] [] t D Q := vc_ok (cuts := []) 600 0 _ _ _ _ h
/-! 60 X6_writeRowsTo -/
set_option maxRecDepth 100000 in
theorem b60_0 {S : (Nat → Int32) × Nat} {t : qT} {D : qD} {Q : Int → qT → qD → Prop} {l1 l2 : Int} {a : Nat} (h :
chk ((t.1 a).1 = 6)
(wp S 58 5 [some (qr a), some (qi l1), some (qi l2), some (qi (D a 6)), none] [] t D Q)) : wp S 58 0 [some (qr a), some (qi l1), some (qi l2), none, none] [] t D Q := vc_ok (cuts := [5, 19]) 600 0 _ _ _ _ h
set_option maxRecDepth 100000 in
theorem b60_5 {S : (Nat → Int32) × Nat} {t : qT} {D : qD} {Q : Int → qT → qD → Prop} {l1 l2 l3 : Int} {a : Nat} {o4 : Option qV} (h :
chk (qR l3)
(chk (qR l2)
  (if l3 < l2 then
    (chk (qR l3)
      (if l3 < 10 then
        (wp S 58 19 [some (qr a), some (qi l1), some (qi l2), some (qi l3), some (qi 0)] [] t D Q)
        else
        (chk ((t.1 a).1 = 6)
          (Q 0 t (up D a 6 l2)))))
    else
    (chk ((t.1 a).1 = 6)
      (Q 0 t (up D a 6 l2)))))) : wp S 58 5 [some (qr a), some (qi l1), some (qi l2), some (qi l3), o4] [] t D Q := vc_ok (cuts := [5, 19]) 600 5 _ _ _ _ h
set_option maxRecDepth 100000 in
theorem b60_19 {S : (Nat → Int32) × Nat} {t : qT} {D : qD} {Q : Int → qT → qD → Prop} {l1 l2 l3 l4 : Int} {a : Nat} (h :
chk (qR l4)
(if l4 < 4 then
  (chk ((t.1 a).1 = 6)
    (chk ((t.1 a).1 = 6)
      (chk ((t.1 (t.2.1 a 2)).1 = 10)
        (chk (0 ≤ l4 ∧ l4 < (t.1 (t.2.1 a 2)).2)
          (chk ((t.1 (t.2.1 a 1)).1 = 0)
            (wp S 2 0 [some (qr (t.2.1 a 1)), some (qi l1), some (qi l3), some (qi l4), some (qi (D (t.2.1 a 2) l4))] [] t D (fun _ t1 D1 =>
                (wp S 58 19 [some (qr a), some (qi l1), some (qi l2), some (qi l3), some (qi (l4 + 1))] [] t1 D1 Q))))))))
  else
  (chk ((t.1 a).1 = 6)
    (chk ((t.1 a).1 = 6)
      (chk ((t.1 (t.2.1 a 1)).1 = 0)
        (wp S 2 0 [some (qr (t.2.1 a 1)), some (qi l1), some (qi l3), some (qi 4), some (qi (D a 4))] [] t D (fun _ t2 D2 =>
            (chk ((t2.1 a).1 = 6)
              (chk ((t2.1 a).1 = 6)
                (chk ((t2.1 (t2.2.1 a 1)).1 = 0)
                  (wp S 2 0 [some (qr (t2.2.1 a 1)), some (qi l1), some (qi l3), some (qi 5), some (qi (D2 a 7))] [] t2 D2 (fun _ t3 D3 =>
                      (wp S 58 5 [some (qr a), some (qi l1), some (qi l2), some (qi (l3 + 1)), some (qi l4)] [] t3 D3 Q))))))))))))) : wp S 58 19 [some (qr a), some (qi l1), some (qi l2), some (qi l3), some (qi l4)] [] t D Q := vc_ok (cuts := [5, 19]) 600 19 _ _ _ _ h
/-! 61 X6_writePads -/
set_option maxRecDepth 100000 in
theorem b61_0 {S : (Nat → Int32) × Nat} {t : qT} {D : qD} {Q : Int → qT → qD → Prop} {l1 : Int} {a : Nat} (h :
wp S 59 2 [some (qr a), some (qi l1), some (qi 0), none] [] t D Q) : wp S 59 0 [some (qr a), some (qi l1), none, none] [] t D Q := vc_ok (cuts := [2, 51]) 600 0 _ _ _ _ h
set_option maxRecDepth 100000 in
theorem b61_2 {S : (Nat → Int32) × Nat} {t : qT} {D : qD} {Q : Int → qT → qD → Prop} {l1 l2 : Int} {a : Nat} {o3 : Option qV} (h :
chk (qR l2)
(if l2 < 3 then
  (chk ((t.1 a).1 = 6)
    (chk ((t.1 a).1 = 6)
      (chk ((t.1 (t.2.1 a 0)).1 = 4)
        (wp S 39 0 [some (qr (t.2.1 a 0)), some (qi (D a 5))] [] t D (fun x1 t1 D1 =>
            (wp S 90 0 [some (qi x1)] [] t1 D1 (fun x2 t2 D2 =>
                (chk (qR x2)
                  (if x2 = (-1) then
                    (Q 0 t2 D2)
                    else
                    (chk ((t2.1 a).1 = 6)
                      (chk ((t2.1 a).1 = 6)
                        (chk ((t2.1 a).1 = 6)
                        (chk ((t2.1 (t2.2.1 a 0)).1 = 4)
                        (wp S 39 0 [some (qr (t2.2.1 a 0)), some (qi (D2 a 5))] [] t2 D2 (fun x3 t3 D3 =>
                        (wp S 90 0 [some (qi x3)] [] t3 D3 (fun x4 t4 D4 =>
                        (chk ((t4.1 (t2.2.1 a 1)).1 = 0)
                        (wp S 6 0 [some (qr (t2.2.1 a 1)), some (qi l1), some (qi l2), some (qi 0), some (qi x4)] [] t4 D4 (fun _ t5 D5 =>
                        (wp S 59 51 [some (qr a), some (qi l1), some (qi l2), some (qi 1)] [] t5 D5 Q)))))))))))))))))))))
  else
  (Q 0 t D))) : wp S 59 2 [some (qr a), some (qi l1), some (qi l2), o3] [] t D Q := vc_ok (cuts := [2, 51]) 600 2 _ _ _ _ h
set_option maxRecDepth 100000 in
theorem b61_51 {S : (Nat → Int32) × Nat} {t : qT} {D : qD} {Q : Int → qT → qD → Prop} {l1 l2 l3 : Int} {a : Nat} (h :
chk (qR l3)
(if l3 < 5 then
  (chk ((t.1 a).1 = 6)
    (chk ((t.1 a).1 = 6)
      (chk ((t.1 a).1 = 6)
        (chk ((t.1 (t.2.1 a 0)).1 = 4)
          (wp S 40 0 [some (qr (t.2.1 a 0)), some (qi ((D a 5) + l3))] [] t D (fun x1 t1 D1 =>
              (chk ((t1.1 (t.2.1 a 1)).1 = 0)
                (wp S 6 0 [some (qr (t.2.1 a 1)), some (qi l1), some (qi l2), some (qi l3), some (qi x1)] [] t1 D1 (fun _ t2 D2 =>
                    (wp S 59 51 [some (qr a), some (qi l1), some (qi l2), some (qi (l3 + 1))] [] t2 D2 Q))))))))))
  else
  (chk ((t.1 a).1 = 6)
    (chk ((t.1 (t.2.1 a 1)).1 = 0)
      (wp S 4 0 [some (qr (t.2.1 a 1)), some (qi l1), some (qi (l2 + 1))] [] t D (fun _ t3 D3 =>
          (chk ((t3.1 a).1 = 6)
            (chk ((t3.1 a).1 = 6)
              (wp S 59 2 [some (qr a), some (qi l1), some (qi (l2 + 1)), some (qi l3)] [] t3 (up D3 a 5 ((D3 a 5) + 5)) Q))))))))) : wp S 59 51 [some (qr a), some (qi l1), some (qi l2), some (qi l3)] [] t D Q := vc_ok (cuts := [2, 51]) 600 51 _ _ _ _ h
/-! 63 X7_note -/
/-! 64 X7_sortsOf -/
set_option maxRecDepth 100000 in
theorem b64_0 {S : (Nat → Int32) × Nat} {t : qT} {D : qD} {Q : Int → qT → qD → Prop} {l1 l2 : Int} (h :
wp S 61 5 [some (qs 7), some (qi l1), some (qi l2), some (qi 0), some (qi 0)] [] t D Q) : wp S 61 0 [some (qs 7), some (qi l1), some (qi l2), none, none] [] t D Q := vc_ok (cuts := [5]) 600 0 _ _ _ _ h
set_option maxRecDepth 100000 in
theorem b64_5 {S : (Nat → Int32) × Nat} {t : qT} {D : qD} {Q : Int → qT → qD → Prop} {l1 l2 l3 l4 : Int} (h :
chk (qR l4)
(if l4 < 5 then
  (wp S 62 0 [some (qs 7), some (qi l4), some (qi l1), some (qi l2), none] [] t D (fun x1 t1 D1 =>
      (chk (qR x1)
        (if x1 = 0 then
          (wp S 61 5 [some (qs 7), some (qi l1), some (qi l2), some (qi l3), some (qi (l4 + 1))] [] t1 D1 Q)
          else
          (wp S 61 5 [some (qs 7), some (qi l1), some (qi l2), some (qi (qor l3 (qshl 1 l4))), some (qi (l4 + 1))] [] t1 D1 Q)))))
  else
  (Q l3 t D))) : wp S 61 5 [some (qs 7), some (qi l1), some (qi l2), some (qi l3), some (qi l4)] [] t D Q := vc_ok (cuts := [5]) 600 5 _ _ _ _ h
/-! 65 X7_canBe -/
set_option maxRecDepth 100000 in
theorem b65_0 {S : (Nat → Int32) × Nat} {t : qT} {D : qD} {Q : Int → qT → qD → Prop} {l1 l2 l3 : Int} (h :
wp S 62 3 [some (qs 7), some (qi l1), some (qi l2), some (qi l3), some (qi 0)] [] t D Q) : wp S 62 0 [some (qs 7), some (qi l1), some (qi l2), some (qi l3), none] [] t D Q := vc_ok (cuts := [3]) 600 0 _ _ _ _ h
set_option maxRecDepth 100000 in
theorem b65_3 {S : (Nat → Int32) × Nat} {t : qT} {D : qD} {Q : Int → qT → qD → Prop} {l1 l2 l3 l4 : Int} (h :
chk (qR l4)
(chk (qR (D 7 3))
  (if l4 < (D 7 3) then
    (chk (0 ≤ l4 ∧ l4 < 6)
      (chk (qR (D 8 l4))
        (chk (qR l2)
          (if (D 8 l4) = l2 then
            (chk (0 ≤ l4 ∧ l4 < 6)
              (wp S 92 0 [some (qi l1), some (qi l3), some (qi (D 9 l4))] [] t D (fun x1 t1 D1 =>
                  (chk (0 ≤ l4 ∧ l4 < 6)
                    (chk (qR x1)
                      (chk (qR (D1 10 l4))
                        (if x1 = (D1 10 l4) then
                        (wp S 62 3 [some (qs 7), some (qi l1), some (qi l2), some (qi l3), some (qi (l4 + 1))] [] t1 D1 Q)
                        else
                        (Q 0 t1 D1))))))))
            else
            (wp S 62 3 [some (qs 7), some (qi l1), some (qi l2), some (qi l3), some (qi (l4 + 1))] [] t D Q)))))
    else
    (Q 1 t D)))) : wp S 62 3 [some (qs 7), some (qi l1), some (qi l2), some (qi l3), some (qi l4)] [] t D Q := vc_ok (cuts := [3]) 600 3 _ _ _ _ h
/-! 66 X7_become -/