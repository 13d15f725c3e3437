/-! blocks, written by wip/whole/mkblk.py: what each stretch of a method asks -/
/-! 110 X9_in -/
set_option maxRecDepth 100000 in
theorem b110_0 {S : (Nat → Int32) × Nat} {t : qT} {D : qD} {Q : Int → qT → qD → Prop} {l0 l2 l4 : Int} (h :
chk (l0 = l2 ∨ (qR64 l0 ∧ qR64 l2))
(chk (qR (qcmp l0 l2))
  (if (qcmp l0 l2) < 0 then
    (Q 0 t D)
    else
    (chk (l0 = l4 ∨ (qR64 l0 ∧ qR64 l4))
      (chk (qR (qcmp l0 l4))
        (if 0 < (qcmp l0 l4) then
          (Q 0 t D)
          else
          (Q 1 t D))))))) : wp S 110 0 [some (ql l0), none, some (ql l2), none, some (ql l4), none] [] t D Q := vc_ok (cuts := []) 600 0 _ _ _ _ h
/-! 111 X9_letter -/
set_option maxRecDepth 100000 in
theorem b111_0 {S : (Nat → Int32) × Nat} {t : qT} {D : qD} {Q : Int → qT → qD → Prop} {l1 : Int} (h :
chk (qR l1)
(wp S 110 0 [some (ql l1), none, some (ql 1), none, some (ql 126), none] [] t D (fun x1 t1 D1 =>
    (chk (qR x1)
      (if x1 = 0 then
        (Q (-102) t1 D1)
        else
        (chk (qR (D1 28 1))
          (if (D1 28 1) = 100 then
            (Q (-104) t1 D1)
            else
            (chk (0 ≤ (D1 28 1) ∧ (D1 28 1) < 100)
              (Q (((up D1 29 (D1 28 1) l1) 28 1) + 1) t1 (up (up D1 29 (D1 28 1) l1) 28 1 (((up D1 29 (D1 28 1) l1) 28 1) + 1))))))))))) : wp S 111 0 [some (qs 28), some (qi l1)] [] t D Q := vc_ok (cuts := []) 600 0 _ _ _ _ h
/-! 112 X9_blank -/
set_option maxRecDepth 100000 in
theorem b112_0 {S : (Nat → Int32) × Nat} {t : qT} {D : qD} {Q : Int → qT → qD → Prop} (h :
Q (D 28 1) t (up D 28 1 0)) : wp S 112 0 [some (qs 28), none] [] t D Q := vc_ok (cuts := []) 600 0 _ _ _ _ h
/-! 113 X9_kindBy -/
set_option maxRecDepth 100000 in
theorem b113_0 {S : (Nat → Int32) × Nat} {t : qT} {D : qD} {Q : Int → qT → qD → Prop} {l0 : Int} (h :
chk (qR l0)
(if l0 = 97 then
  (Q 1 t D)
  else
  (if l0 = 99 then
    (Q 0 t D)
    else
    (if l0 = 102 then
      (Q 2 t D)
      else
      (if l0 = 103 then
        (Q 4 t D)
        else
        (if l0 = 117 then
          (Q 3 t D)
          else
          (Q (-1) t D))))))) : wp S 113 0 [some (qi l0)] [] t D Q := vc_ok (cuts := []) 600 0 _ _ _ _ h
/-! 114 X9_beginFunction -/
set_option maxRecDepth 100000 in
theorem b114_0 {S : (Nat → Int32) × Nat} {t : qT} {D : qD} {Q : Int → qT → qD → Prop} (h :
Q 0 t (up (up (up (up (up (up D 28 3 0) 28 4 0) 28 5 0) 28 6 0) 28 8 0) 28 9 0)) : wp S 114 0 [some (qs 28)] [] t D Q := vc_ok (cuts := []) 600 0 _ _ _ _ h
/-! 115 X9_digitsOf -/
set_option maxRecDepth 100000 in
theorem b115_0 {S : (Nat → Int32) × Nat} {t : qT} {D : qD} {Q : Int → qT → qD → Prop} {l0 : Int} (h :
chk (qR l0)
(if l0 = 115 then
  (Q 2 t D)
  else
  (chk (qR l0)
    (if l0 = 43 then
      (Q 1 t D)
      else
      (chk (qR l0)
        (if l0 = 117 then
          (Q 1 t D)
          else
          (Q 0 t D))))))) : wp S 115 0 [some (qi l0)] [] t D Q := vc_ok (cuts := []) 600 0 _ _ _ _ h
/-! 116 X9_endOp -/
set_option maxRecDepth 100000 in
theorem b116_0 {S : (Nat → Int32) × Nat} {t : qT} {D : qD} {Q : Int → qT → qD → Prop} (h :
wp S 115 0 [some (qi (D 28 7))] [] t D (fun x1 t1 D1 =>
  (chk (qR (D 28 6))
    (chk (qR x1)
      (if x1 < (D 28 6) then
        (chk (0 ≤ (D1 28 2) ∧ (D1 28 2) < 3)
          (Q 0 t1 (up (up (up D1 28 6 0) 28 3 ((D1 28 3) + 1)) 30 (D1 28 2) ((D1 28 3) + 1))))
        else
        (Q 0 t1 D1)))))) : wp S 116 0 [some (qs 28)] [] t D Q := vc_ok (cuts := []) 600 0 _ _ _ _ h
/-! 117 X9_isOpBegun -/
set_option maxRecDepth 100000 in
theorem b117_0 {S : (Nat → Int32) × Nat} {t : qT} {D : qD} {Q : Int → qT → qD → Prop} {l1 : Int} (h :
chk (qR l1)
(if l1 = 59 then
  (Q 1 t (up D 28 5 1))
  else
  (chk (qR l1)
    (if l1 = 43 then
      (chk (qR (D 28 3))
        (if (D 28 3) = 8 then
          (Q 0 t D)
          else
          (chk (qR l1)
            (if l1 = 109 then
              (chk (0 ≤ ((24 * (D 28 2)) + (3 * (D 28 3))) ∧ ((24 * (D 28 2)) + (3 * (D 28 3))) < 72)
                (wp S 116 0 [some (qs 28)] [] t (up (up (up (up D 28 9 ((D 28 9) + 1)) 28 7 l1) 32 ((24 * (D 28 2)) + (3 * (D 28 3))) l1) 28 6 1) (fun _ t1 D1 =>
                    (Q 1 t1 D1))))
              else
              (chk (qR l1)
                (if l1 = 98 then
                  (chk (0 ≤ ((24 * (D 28 2)) + (3 * (D 28 3))) ∧ ((24 * (D 28 2)) + (3 * (D 28 3))) < 72)
                    (wp S 116 0 [some (qs 28)] [] t (up (up (up (up D 28 9 ((D 28 9) + (-1))) 28 7 l1) 32 ((24 * (D 28 2)) + (3 * (D 28 3))) l1) 28 6 1) (fun _ t2 D2 =>
                        (Q 1 t2 D2))))
                  else
                  (chk (0 ≤ ((24 * (D 28 2)) + (3 * (D 28 3))) ∧ ((24 * (D 28 2)) + (3 * (D 28 3))) < 72)
                    (wp S 116 0 [some (qs 28)] [] t (up (up (up (up D 28 9 ((D 28 9) + 0)) 28 7 l1) 32 ((24 * (D 28 2)) + (3 * (D 28 3))) l1) 28 6 1) (fun _ t3 D3 =>
                        (Q 1 t3 D3))))))))))
      else
      (chk (qR l1)
        (if l1 = 115 then
          (chk (qR (D 28 3))
            (if (D 28 3) = 8 then
              (Q 0 t D)
              else
              (chk (qR l1)
                (if l1 = 109 then
                  (chk (0 ≤ ((24 * (D 28 2)) + (3 * (D 28 3))) ∧ ((24 * (D 28 2)) + (3 * (D 28 3))) < 72)
                    (wp S 116 0 [some (qs 28)] [] t (up (up (up (up D 28 9 ((D 28 9) + 1)) 28 7 l1) 32 ((24 * (D 28 2)) + (3 * (D 28 3))) l1) 28 6 1) (fun _ t4 D4 =>
                        (Q 1 t4 D4))))
                  else
                  (chk (qR l1)
                    (if l1 = 98 then
                      (chk (0 ≤ ((24 * (D 28 2)) + (3 * (D 28 3))) ∧ ((24 * (D 28 2)) + (3 * (D 28 3))) < 72)
                        (wp S 116 0 [some (qs 28)] [] t (up (up (up (up D 28 9 ((D 28 9) + (-1))) 28 7 l1) 32 ((24 * (D 28 2)) + (3 * (D 28 3))) l1) 28 6 1) (fun _ t5 D5 =>
                        (Q 1 t5 D5))))
                      else
                      (chk (0 ≤ ((24 * (D 28 2)) + (3 * (D 28 3))) ∧ ((24 * (D 28 2)) + (3 * (D 28 3))) < 72)
                        (wp S 116 0 [some (qs 28)] [] t (up (up (up (up D 28 9 ((D 28 9) + 0)) 28 7 l1) 32 ((24 * (D 28 2)) + (3 * (D 28 3))) l1) 28 6 1) (fun _ t6 D6 =>
                        (Q 1 t6 D6))))))))))
          else
          (chk (qR l1)
            (if l1 = 117 then
              (chk (qR (D 28 3))
                (if (D 28 3) = 8 then
                  (Q 0 t D)
                  else
                  (chk (qR l1)
                    (if l1 = 109 then
                      (chk (0 ≤ ((24 * (D 28 2)) + (3 * (D 28 3))) ∧ ((24 * (D 28 2)) + (3 * (D 28 3))) < 72)
                        (wp S 116 0 [some (qs 28)] [] t (up (up (up (up D 28 9 ((D 28 9) + 1)) 28 7 l1) 32 ((24 * (D 28 2)) + (3 * (D 28 3))) l1) 28 6 1) (fun _ t7 D7 =>
                        (Q 1 t7 D7))))
                      else
                      (chk (qR l1)
                        (if l1 = 98 then
                        (chk (0 ≤ ((24 * (D 28 2)) + (3 * (D 28 3))) ∧ ((24 * (D 28 2)) + (3 * (D 28 3))) < 72)
                        (wp S 116 0 [some (qs 28)] [] t (up (up (up (up D 28 9 ((D 28 9) + (-1))) 28 7 l1) 32 ((24 * (D 28 2)) + (3 * (D 28 3))) l1) 28 6 1) (fun _ t8 D8 =>
                        (Q 1 t8 D8))))
                        else
                        (chk (0 ≤ ((24 * (D 28 2)) + (3 * (D 28 3))) ∧ ((24 * (D 28 2)) + (3 * (D 28 3))) < 72)
                        (wp S 116 0 [some (qs 28)] [] t (up (up (up (up D 28 9 ((D 28 9) + 0)) 28 7 l1) 32 ((24 * (D 28 2)) + (3 * (D 28 3))) l1) 28 6 1) (fun _ t9 D9 =>
                        (Q 1 t9 D9))))))))))
              else
              (chk (qR l1)
                (if l1 = 109 then
                  (chk (qR (D 28 9))
                    (if (D 28 9) < 3 then
                      (chk (qR (D 28 3))
                        (if (D 28 3) = 8 then
                        (Q 0 t D)
                        else
                        (chk (qR l1)
                        (if l1 = 109 then
                        (chk (0 ≤ ((24 * (D 28 2)) + (3 * (D 28 3))) ∧ ((24 * (D 28 2)) + (3 * (D 28 3))) < 72)
                        (wp S 116 0 [some (qs 28)] [] t (up (up (up (up D 28 9 ((D 28 9) + 1)) 28 7 l1) 32 ((24 * (D 28 2)) + (3 * (D 28 3))) l1) 28 6 1) (fun _ t10 D10 =>
                        (Q 1 t10 D10))))
                        else
                        (chk (qR l1)
                        (if l1 = 98 then
                        (chk (0 ≤ ((24 * (D 28 2)) + (3 * (D 28 3))) ∧ ((24 * (D 28 2)) + (3 * (D 28 3))) < 72)
                        (wp S 116 0 [some (qs 28)] [] t (up (up (up (up D 28 9 ((D 28 9) + (-1))) 28 7 l1) 32 ((24 * (D 28 2)) + (3 * (D 28 3))) l1) 28 6 1) (fun _ t11 D11 =>
                        (Q 1 t11 D11))))
                        else
                        (chk (0 ≤ ((24 * (D 28 2)) + (3 * (D 28 3))) ∧ ((24 * (D 28 2)) + (3 * (D 28 3))) < 72)
                        (wp S 116 0 [some (qs 28)] [] t (up (up (up (up D 28 9 ((D 28 9) + 0)) 28 7 l1) 32 ((24 * (D 28 2)) + (3 * (D 28 3))) l1) 28 6 1) (fun _ t12 D12 =>
                        (Q 1 t12 D12))))))))))
                      else
                      (chk (qR l1)
                        (if l1 = 98 then
                        (chk (qR (D 28 9))
                        (if 0 < (D 28 9) then
                        (chk (qR (D 28 3))
                        (if (D 28 3) = 8 then
                        (Q 0 t D)
                        else
                        (chk (qR l1)
                        (if l1 = 109 then
                        (chk (0 ≤ ((24 * (D 28 2)) + (3 * (D 28 3))) ∧ ((24 * (D 28 2)) + (3 * (D 28 3))) < 72)
                        (wp S 116 0 [some (qs 28)] [] t (up (up (up (up D 28 9 ((D 28 9) + 1)) 28 7 l1) 32 ((24 * (D 28 2)) + (3 * (D 28 3))) l1) 28 6 1) (fun _ t13 D13 =>
                        (Q 1 t13 D13))))
                        else
                        (chk (qR l1)
                        (if l1 = 98 then
                        (chk (0 ≤ ((24 * (D 28 2)) + (3 * (D 28 3))) ∧ ((24 * (D 28 2)) + (3 * (D 28 3))) < 72)
                        (wp S 116 0 [some (qs 28)] [] t (up (up (up (up D 28 9 ((D 28 9) + (-1))) 28 7 l1) 32 ((24 * (D 28 2)) + (3 * (D 28 3))) l1) 28 6 1) (fun _ t14 D14 =>
                        (Q 1 t14 D14))))
                        else
                        (chk (0 ≤ ((24 * (D 28 2)) + (3 * (D 28 3))) ∧ ((24 * (D 28 2)) + (3 * (D 28 3))) < 72)
                        (wp S 116 0 [some (qs 28)] [] t (up (up (up (up D 28 9 ((D 28 9) + 0)) 28 7 l1) 32 ((24 * (D 28 2)) + (3 * (D 28 3))) l1) 28 6 1) (fun _ t15 D15 =>
                        (Q 1 t15 D15))))))))))
                        else
                        (Q 0 t D)))
                        else
                        (Q 0 t D)))))
                  else
                  (chk (qR l1)
                    (if l1 = 98 then
                      (chk (qR (D 28 9))
                        (if 0 < (D 28 9) then
                        (chk (qR (D 28 3))
                        (if (D 28 3) = 8 then
                        (Q 0 t D)
                        else
                        (chk (qR l1)
                        (if l1 = 109 then
                        (chk (0 ≤ ((24 * (D 28 2)) + (3 * (D 28 3))) ∧ ((24 * (D 28 2)) + (3 * (D 28 3))) < 72)
                        (wp S 116 0 [some (qs 28)] [] t (up (up (up (up D 28 9 ((D 28 9) + 1)) 28 7 l1) 32 ((24 * (D 28 2)) + (3 * (D 28 3))) l1) 28 6 1) (fun _ t16 D16 =>
                        (Q 1 t16 D16))))
                        else
                        (chk (qR l1)
                        (if l1 = 98 then
                        (chk (0 ≤ ((24 * (D 28 2)) + (3 * (D 28 3))) ∧ ((24 * (D 28 2)) + (3 * (D 28 3))) < 72)
                        (wp S 116 0 [some (qs 28)] [] t (up (up (up (up D 28 9 ((D 28 9) + (-1))) 28 7 l1) 32 ((24 * (D 28 2)) + (3 * (D 28 3))) l1) 28 6 1) (fun _ t17 D17 =>
                        (Q 1 t17 D17))))
                        else
                        (chk (0 ≤ ((24 * (D 28 2)) + (3 * (D 28 3))) ∧ ((24 * (D 28 2)) + (3 * (D 28 3))) < 72)
                        (wp S 116 0 [some (qs 28)] [] t (up (up (up (up D 28 9 ((D 28 9) + 0)) 28 7 l1) 32 ((24 * (D 28 2)) + (3 * (D 28 3))) l1) 28 6 1) (fun _ t18 D18 =>
                        (Q 1 t18 D18))))))))))
                        else
                        (Q 0 t D)))
                      else
                      (Q 0 t D))))))))))))) : wp S 117 0 [some (qs 28), some (qi l1), none] [] t D Q := vc_ok (cuts := []) 600 0 _ _ _ _ h
/-! 118 X9_isOpDigit -/
set_option maxRecDepth 100000 in
theorem b118_0 {S : (Nat → Int32) × Nat} {t : qT} {D : qD} {Q : Int → qT → qD → Prop} {l1 : Int} (h :
chk (qR (D 28 7))
(if (D 28 7) = 43 then
  (chk (qR l1)
    (wp S 110 0 [some (ql l1), none, some (ql 49), none, some (ql 57), none] [] t D (fun x1 t1 D1 =>
        (chk (qR x1)
          (if x1 = 0 then
            (chk (qR (D1 28 7))
              (if (D1 28 7) = 43 then
                (chk (0 ≤ (((24 * (D1 28 2)) + (3 * (D1 28 3))) + (D1 28 6)) ∧ (((24 * (D1 28 2)) + (3 * (D1 28 3))) + (D1 28 6)) < 72)
                  (wp S 116 0 [some (qs 28)] [] t1 (up (up (up D1 28 8 ((D1 28 8) + (l1 - 48))) 32 (((24 * (D1 28 2)) + (3 * (D1 28 3))) + (D1 28 6)) (l1 - 48)) 28 6 (((up (up D1 28 8 ((D1 28 8) + (l1 - 48))) 32 (((24 * (D1 28 2)) + (3 * (D1 28 3))) + (D1 28 6)) (l1 - 48)) 28 6) + 1)) (fun _ t2 D2 =>
                      (Q 0 t2 D2))))
                else
                (chk (0 ≤ (((24 * (D1 28 2)) + (3 * (D1 28 3))) + (D1 28 6)) ∧ (((24 * (D1 28 2)) + (3 * (D1 28 3))) + (D1 28 6)) < 72)
                  (wp S 116 0 [some (qs 28)] [] t1 (up (up (up D1 28 8 ((D1 28 8) + 0)) 32 (((24 * (D1 28 2)) + (3 * (D1 28 3))) + (D1 28 6)) (l1 - 48)) 28 6 (((up (up D1 28 8 ((D1 28 8) + 0)) 32 (((24 * (D1 28 2)) + (3 * (D1 28 3))) + (D1 28 6)) (l1 - 48)) 28 6) + 1)) (fun _ t3 D3 =>
                      (Q 0 t3 D3))))))
            else
            (chk (qR (((D1 28 8) + l1) - 48))
              (if (((D1 28 8) + l1) - 48) < 10 then
                (chk (qR (D1 28 7))
                  (if (D1 28 7) = 43 then
                    (chk (0 ≤ (((24 * (D1 28 2)) + (3 * (D1 28 3))) + (D1 28 6)) ∧ (((24 * (D1 28 2)) + (3 * (D1 28 3))) + (D1 28 6)) < 72)
                      (wp S 116 0 [some (qs 28)] [] t1 (up (up (up D1 28 8 ((D1 28 8) + (l1 - 48))) 32 (((24 * (D1 28 2)) + (3 * (D1 28 3))) + (D1 28 6)) (l1 - 48)) 28 6 (((up (up D1 28 8 ((D1 28 8) + (l1 - 48))) 32 (((24 * (D1 28 2)) + (3 * (D1 28 3))) + (D1 28 6)) (l1 - 48)) 28 6) + 1)) (fun _ t4 D4 =>
                        (Q 1 t4 D4))))
                    else
                    (chk (0 ≤ (((24 * (D1 28 2)) + (3 * (D1 28 3))) + (D1 28 6)) ∧ (((24 * (D1 28 2)) + (3 * (D1 28 3))) + (D1 28 6)) < 72)
                      (wp S 116 0 [some (qs 28)] [] t1 (up (up (up D1 28 8 ((D1 28 8) + 0)) 32 (((24 * (D1 28 2)) + (3 * (D1 28 3))) + (D1 28 6)) (l1 - 48)) 28 6 (((up (up D1 28 8 ((D1 28 8) + 0)) 32 (((24 * (D1 28 2)) + (3 * (D1 28 3))) + (D1 28 6)) (l1 - 48)) 28 6) + 1)) (fun _ t5 D5 =>
                        (Q 1 t5 D5))))))
                else
                (chk (qR (D1 28 7))
                  (if (D1 28 7) = 43 then
                    (chk (0 ≤ (((24 * (D1 28 2)) + (3 * (D1 28 3))) + (D1 28 6)) ∧ (((24 * (D1 28 2)) + (3 * (D1 28 3))) + (D1 28 6)) < 72)
                      (wp S 116 0 [some (qs 28)] [] t1 (up (up (up D1 28 8 ((D1 28 8) + (l1 - 48))) 32 (((24 * (D1 28 2)) + (3 * (D1 28 3))) + (D1 28 6)) (l1 - 48)) 28 6 (((up (up D1 28 8 ((D1 28 8) + (l1 - 48))) 32 (((24 * (D1 28 2)) + (3 * (D1 28 3))) + (D1 28 6)) (l1 - 48)) 28 6) + 1)) (fun _ t6 D6 =>
                        (Q 0 t6 D6))))
                    else
                    (chk (0 ≤ (((24 * (D1 28 2)) + (3 * (D1 28 3))) + (D1 28 6)) ∧ (((24 * (D1 28 2)) + (3 * (D1 28 3))) + (D1 28 6)) < 72)
                      (wp S 116 0 [some (qs 28)] [] t1 (up (up (up D1 28 8 ((D1 28 8) + 0)) 32 (((24 * (D1 28 2)) + (3 * (D1 28 3))) + (D1 28 6)) (l1 - 48)) 28 6 (((up (up D1 28 8 ((D1 28 8) + 0)) 32 (((24 * (D1 28 2)) + (3 * (D1 28 3))) + (D1 28 6)) (l1 - 48)) 28 6) + 1)) (fun _ t7 D7 =>
                        (Q 0 t7 D7)))))))))))))
  else
  (chk (qR l1)
    (chk (qR (D 28 6))
      (if (D 28 6) = 1 then
        (wp S 110 0 [some (ql l1), none, some (ql 48), none, some (ql 51), none] [] t D (fun x8 t8 D8 =>
            (chk (qR (D8 28 7))
              (if (D8 28 7) = 43 then
                (chk (0 ≤ (((24 * (D8 28 2)) + (3 * (D8 28 3))) + (D8 28 6)) ∧ (((24 * (D8 28 2)) + (3 * (D8 28 3))) + (D8 28 6)) < 72)
                  (wp S 116 0 [some (qs 28)] [] t8 (up (up (up D8 28 8 ((D8 28 8) + (l1 - 48))) 32 (((24 * (D8 28 2)) + (3 * (D8 28 3))) + (D8 28 6)) (l1 - 48)) 28 6 (((up (up D8 28 8 ((D8 28 8) + (l1 - 48))) 32 (((24 * (D8 28 2)) + (3 * (D8 28 3))) + (D8 28 6)) (l1 - 48)) 28 6) + 1)) (fun _ t9 D9 =>
                      (chk (x8 = 0 ∨ x8 = 1)
                        (Q x8 t9 D9)))))
                else
                (chk (0 ≤ (((24 * (D8 28 2)) + (3 * (D8 28 3))) + (D8 28 6)) ∧ (((24 * (D8 28 2)) + (3 * (D8 28 3))) + (D8 28 6)) < 72)
                  (wp S 116 0 [some (qs 28)] [] t8 (up (up (up D8 28 8 ((D8 28 8) + 0)) 32 (((24 * (D8 28 2)) + (3 * (D8 28 3))) + (D8 28 6)) (l1 - 48)) 28 6 (((up (up D8 28 8 ((D8 28 8) + 0)) 32 (((24 * (D8 28 2)) + (3 * (D8 28 3))) + (D8 28 6)) (l1 - 48)) 28 6) + 1)) (fun _ t10 D10 =>
                      (chk (x8 = 0 ∨ x8 = 1)
                        (Q x8 t10 D10)))))))))
        else
        (wp S 110 0 [some (ql l1), none, some (ql 48), none, some (ql 53), none] [] t D (fun x11 t11 D11 =>
            (chk (qR (D11 28 7))
              (if (D11 28 7) = 43 then
                (chk (0 ≤ (((24 * (D11 28 2)) + (3 * (D11 28 3))) + (D11 28 6)) ∧ (((24 * (D11 28 2)) + (3 * (D11 28 3))) + (D11 28 6)) < 72)
                  (wp S 116 0 [some (qs 28)] [] t11 (up (up (up D11 28 8 ((D11 28 8) + (l1 - 48))) 32 (((24 * (D11 28 2)) + (3 * (D11 28 3))) + (D11 28 6)) (l1 - 48)) 28 6 (((up (up D11 28 8 ((D11 28 8) + (l1 - 48))) 32 (((24 * (D11 28 2)) + (3 * (D11 28 3))) + (D11 28 6)) (l1 - 48)) 28 6) + 1)) (fun _ t12 D12 =>
                      (chk (x11 = 0 ∨ x11 = 1)
                        (Q x11 t12 D12)))))
                else
                (chk (0 ≤ (((24 * (D11 28 2)) + (3 * (D11 28 3))) + (D11 28 6)) ∧ (((24 * (D11 28 2)) + (3 * (D11 28 3))) + (D11 28 6)) < 72)
                  (wp S 116 0 [some (qs 28)] [] t11 (up (up (up D11 28 8 ((D11 28 8) + 0)) 32 (((24 * (D11 28 2)) + (3 * (D11 28 3))) + (D11 28 6)) (l1 - 48)) 28 6 (((up (up D11 28 8 ((D11 28 8) + 0)) 32 (((24 * (D11 28 2)) + (3 * (D11 28 3))) + (D11 28 6)) (l1 - 48)) 28 6) + 1)) (fun _ t13 D13 =>
                      (chk (x11 = 0 ∨ x11 = 1)
                        (Q x11 t13 D13)))))))))))))) : wp S 118 0 [some (qs 28), some (qi l1), none] [] t D Q := vc_ok (cuts := []) 600 0 _ _ _ _ h
/-! 119 X9_isPadBegun -/
set_option maxRecDepth 100000 in
theorem b119_0 {S : (Nat → Int32) × Nat} {t : qT} {D : qD} {Q : Int → qT → qD → Prop} {l1 : Int} (h :
chk (qR l1)
(if l1 = 47 then
  (chk (qR (D 28 2))
    (if (D 28 2) < 2 then
      (chk (0 ≤ ((D 28 2) + 1) ∧ ((D 28 2) + 1) < 3)
        (chk (0 ≤ ((up (up D 28 2 ((D 28 2) + 1)) 30 ((D 28 2) + 1) 0) 28 2) ∧ ((up (up D 28 2 ((D 28 2) + 1)) 30 ((D 28 2) + 1) 0) 28 2) < 3)
          (wp S 114 0 [some (qs 28)] [] t (up (up (up D 28 2 ((D 28 2) + 1)) 30 ((D 28 2) + 1) 0) 31 ((up (up D 28 2 ((D 28 2) + 1)) 30 ((D 28 2) + 1) 0) 28 2) 0) (fun _ t1 D1 =>
              (Q 1 t1 D1)))))
      else
      (wp S 113 0 [some (qi l1)] [] t D (fun x2 t2 D2 =>
          (chk (qR x2)
            (if x2 = (-1) then
              (Q 0 t2 D2)
              else
              (chk (qR (D2 28 4))
                (if (D2 28 4) = 3 then
                  (Q 0 t2 D2)
                  else
                  (wp S 113 0 [some (qi l1)] [] t2 D2 (fun x3 t3 D3 =>
                      (chk (0 ≤ ((15 * (D2 28 2)) + (5 * (D2 28 4))) ∧ ((15 * (D2 28 2)) + (5 * (D2 28 4))) < 45)
                        (Q 1 t3 (up (up D3 33 ((15 * (D2 28 2)) + (5 * (D2 28 4))) x3) 28 6 1)))))))))))))
  else
  (wp S 113 0 [some (qi l1)] [] t D (fun x4 t4 D4 =>
      (chk (qR x4)
        (if x4 = (-1) then
          (Q 0 t4 D4)
          else
          (chk (qR (D4 28 4))
            (if (D4 28 4) = 3 then
              (Q 0 t4 D4)
              else
              (wp S 113 0 [some (qi l1)] [] t4 D4 (fun x5 t5 D5 =>
                  (chk (0 ≤ ((15 * (D4 28 2)) + (5 * (D4 28 4))) ∧ ((15 * (D4 28 2)) + (5 * (D4 28 4))) < 45)
                    (Q 1 t5 (up (up D5 33 ((15 * (D4 28 2)) + (5 * (D4 28 4))) x5) 28 6 1))))))))))))) : wp S 119 0 [some (qs 28), some (qi l1)] [] t D Q := vc_ok (cuts := []) 600 0 _ _ _ _ h
/-! 120 X9_isPadDigit -/
set_option maxRecDepth 100000 in
theorem b120_0 {S : (Nat → Int32) × Nat} {t : qT} {D : qD} {Q : Int → qT → qD → Prop} {l1 : Int} (h :
chk (0 ≤ (((15 * (D 28 2)) + (5 * (D 28 4))) + (D 28 6)) ∧ (((15 * (D 28 2)) + (5 * (D 28 4))) + (D 28 6)) < 45)
(chk (qR l1)
  (chk (qR ((up D 33 (((15 * (D 28 2)) + (5 * (D 28 4))) + (D 28 6)) (l1 - 48)) 28 6))
    (if ((up D 33 (((15 * (D 28 2)) + (5 * (D 28 4))) + (D 28 6)) (l1 - 48)) 28 6) = 3 then
      (wp S 110 0 [some (ql l1), none, some (ql 48), none, some (ql 52), none] [] t (up D 33 (((15 * (D 28 2)) + (5 * (D 28 4))) + (D 28 6)) (l1 - 48)) (fun x1 t1 D1 =>
          (chk (qR x1)
            (if x1 = 0 then
              (chk (qR ((D1 28 6) + 1))
                (if ((D1 28 6) + 1) = 5 then
                  (chk (0 ≤ (D1 28 2) ∧ (D1 28 2) < 3)
                    (Q 0 t1 (up (up (up (up D1 28 6 ((D1 28 6) + 1)) 28 6 0) 28 4 ((D1 28 4) + 1)) 31 (D1 28 2) ((D1 28 4) + 1))))
                  else
                  (Q 0 t1 (up D1 28 6 ((D1 28 6) + 1)))))
              else
              (chk (qR (D1 28 6))
                (if (D1 28 6) = 2 then
                  (chk (0 ≤ (((15 * (D 28 2)) + (5 * (D 28 4))) + (D 28 6)) ∧ (((15 * (D 28 2)) + (5 * (D 28 4))) + (D 28 6)) < 45)
                    (chk (0 ≤ ((((15 * (D 28 2)) + (5 * (D 28 4))) + (D 28 6)) - 1) ∧ ((((15 * (D 28 2)) + (5 * (D 28 4))) + (D 28 6)) - 1) < 45)
                      (chk (qR (D1 33 (((15 * (D 28 2)) + (5 * (D 28 4))) + (D 28 6))))
                        (chk (qR (D1 33 ((((15 * (D 28 2)) + (5 * (D 28 4))) + (D 28 6)) - 1)))
                        (if (D1 33 (((15 * (D 28 2)) + (5 * (D 28 4))) + (D 28 6))) < (D1 33 ((((15 * (D 28 2)) + (5 * (D 28 4))) + (D 28 6)) - 1)) then
                        (chk (qR ((D1 28 6) + 1))
                        (if ((D1 28 6) + 1) = 5 then
                        (chk (0 ≤ (D1 28 2) ∧ (D1 28 2) < 3)
                        (Q 0 t1 (up (up (up (up D1 28 6 ((D1 28 6) + 1)) 28 6 0) 28 4 ((D1 28 4) + 1)) 31 (D1 28 2) ((D1 28 4) + 1))))
                        else
                        (Q 0 t1 (up D1 28 6 ((D1 28 6) + 1)))))
                        else
                        (chk (qR ((D1 28 6) + 1))
                        (if ((D1 28 6) + 1) = 5 then
                        (chk (0 ≤ (D1 28 2) ∧ (D1 28 2) < 3)
                        (Q 1 t1 (up (up (up (up D1 28 6 ((D1 28 6) + 1)) 28 6 0) 28 4 ((D1 28 4) + 1)) 31 (D1 28 2) ((D1 28 4) + 1))))
                        else
                        (Q 1 t1 (up D1 28 6 ((D1 28 6) + 1))))))))))
                  else
                  (chk (qR ((D1 28 6) + 1))
                    (if ((D1 28 6) + 1) = 5 then
                      (chk (0 ≤ (D1 28 2) ∧ (D1 28 2) < 3)
                        (Q 1 t1 (up (up (up (up D1 28 6 ((D1 28 6) + 1)) 28 6 0) 28 4 ((D1 28 4) + 1)) 31 (D1 28 2) ((D1 28 4) + 1))))
                      else
                      (Q 1 t1 (up D1 28 6 ((D1 28 6) + 1)))))))))))
      else
      (wp S 110 0 [some (ql l1), none, some (ql 48), none, some (ql 57), none] [] t (up D 33 (((15 * (D 28 2)) + (5 * (D 28 4))) + (D 28 6)) (l1 - 48)) (fun x2 t2 D2 =>
          (chk (qR x2)
            (if x2 = 0 then
              (chk (qR ((D2 28 6) + 1))
                (if ((D2 28 6) + 1) = 5 then
                  (chk (0 ≤ (D2 28 2) ∧ (D2 28 2) < 3)
                    (Q 0 t2 (up (up (up (up D2 28 6 ((D2 28 6) + 1)) 28 6 0) 28 4 ((D2 28 4) + 1)) 31 (D2 28 2) ((D2 28 4) + 1))))
                  else
                  (Q 0 t2 (up D2 28 6 ((D2 28 6) + 1)))))
              else
              (chk (qR (D2 28 6))
                (if (D2 28 6) = 2 then
                  (chk (0 ≤ (((15 * (D 28 2)) + (5 * (D 28 4))) + (D 28 6)) ∧ (((15 * (D 28 2)) + (5 * (D 28 4))) + (D 28 6)) < 45)
                    (chk (0 ≤ ((((15 * (D 28 2)) + (5 * (D 28 4))) + (D 28 6)) - 1) ∧ ((((15 * (D 28 2)) + (5 * (D 28 4))) + (D 28 6)) - 1) < 45)
                      (chk (qR (D2 33 (((15 * (D 28 2)) + (5 * (D 28 4))) + (D 28 6))))
                        (chk (qR (D2 33 ((((15 * (D 28 2)) + (5 * (D 28 4))) + (D 28 6)) - 1)))
                        (if (D2 33 (((15 * (D 28 2)) + (5 * (D 28 4))) + (D 28 6))) < (D2 33 ((((15 * (D 28 2)) + (5 * (D 28 4))) + (D 28 6)) - 1)) then
                        (chk (qR ((D2 28 6) + 1))
                        (if ((D2 28 6) + 1) = 5 then
                        (chk (0 ≤ (D2 28 2) ∧ (D2 28 2) < 3)
                        (Q 0 t2 (up (up (up (up D2 28 6 ((D2 28 6) + 1)) 28 6 0) 28 4 ((D2 28 4) + 1)) 31 (D2 28 2) ((D2 28 4) + 1))))
                        else
                        (Q 0 t2 (up D2 28 6 ((D2 28 6) + 1)))))
                        else
                        (chk (qR ((D2 28 6) + 1))
                        (if ((D2 28 6) + 1) = 5 then
                        (chk (0 ≤ (D2 28 2) ∧ (D2 28 2) < 3)
                        (Q 1 t2 (up (up (up (up D2 28 6 ((D2 28 6) + 1)) 28 6 0) 28 4 ((D2 28 4) + 1)) 31 (D2 28 2) ((D2 28 4) + 1))))
                        else
                        (Q 1 t2 (up D2 28 6 ((D2 28 6) + 1))))))))))
                  else
                  (chk (qR ((D2 28 6) + 1))
                    (if ((D2 28 6) + 1) = 5 then
                      (chk (0 ≤ (D2 28 2) ∧ (D2 28 2) < 3)
                        (Q 1 t2 (up (up (up (up D2 28 6 ((D2 28 6) + 1)) 28 6 0) 28 4 ((D2 28 4) + 1)) 31 (D2 28 2) ((D2 28 4) + 1))))
                      else
                      (Q 1 t2 (up D2 28 6 ((D2 28 6) + 1))))))))))))))) : wp S 120 0 [some (qs 28), some (qi l1), none, none] [] t D Q := vc_ok (cuts := []) 600 0 _ _ _ _ h
/-! 121 X9_isGood -/
set_option maxRecDepth 100000 in
theorem b121_0 {S : (Nat → Int32) × Nat} {t : qT} {D : qD} {Q : Int → qT → qD → Prop} {l1 : Int} (h :
chk (0 ≤ l1 ∧ l1 < 100)
(chk (qR (D 28 5))
  (if (D 28 5) = 0 then
    (chk (qR (D 28 6))
      (if (D 28 6) = 0 then
        (wp S 117 0 [some (qs 28), some (qi (D 29 l1)), none] [] t D (fun x1 t1 D1 =>
            (chk (x1 = 0 ∨ x1 = 1)
              (Q x1 t1 D1))))
        else
        (wp S 118 0 [some (qs 28), some (qi (D 29 l1)), none] [] t D (fun x2 t2 D2 =>
            (chk (x2 = 0 ∨ x2 = 1)
              (Q x2 t2 D2))))))
    else
    (chk (qR (D 28 6))
      (if (D 28 6) = 0 then
        (wp S 119 0 [some (qs 28), some (qi (D 29 l1))] [] t D (fun x3 t3 D3 =>
            (chk (x3 = 0 ∨ x3 = 1)
              (Q x3 t3 D3))))
        else
        (wp S 120 0 [some (qs 28), some (qi (D 29 l1)), none, none] [] t D (fun x4 t4 D4 =>
            (chk (x4 = 0 ∨ x4 = 1)
              (Q x4 t4 D4))))))))) : wp S 121 0 [some (qs 28), some (qi l1), none] [] t D Q := vc_ok (cuts := []) 600 0 _ _ _ _ h
/-! 122 X9_faultOf -/
set_option maxRecDepth 100000 in
theorem b122_0 {S : (Nat → Int32) × Nat} {t : qT} {D : qD} {Q : Int → qT → qD → Prop} (h :
wp S 114 0 [some (qs 28)] [] t (up (up (up D 28 2 0) 30 0 0) 31 0 0) (fun _ t1 D1 =>
  (wp S 122 25 [some (qs 28), some (qi 0)] [] t1 D1 Q))) : wp S 122 0 [some (qs 28), none] [] t D Q := vc_ok (cuts := [25]) 600 0 _ _ _ _ h
set_option maxRecDepth 100000 in
theorem b122_25 {S : (Nat → Int32) × Nat} {t : qT} {D : qD} {Q : Int → qT → qD → Prop} {l1 : Int} (h :
chk (qR l1)
(chk (qR (D 28 1))
  (if l1 < (D 28 1) then
    (wp S 121 0 [some (qs 28), some (qi l1), none] [] t D (fun x1 t1 D1 =>
        (chk (qR x1)
          (if x1 = 0 then
            (Q l1 t1 D1)
            else
            (wp S 122 25 [some (qs 28), some (qi (l1 + 1))] [] t1 D1 Q)))))
    else
    (Q l1 t D)))) : wp S 122 25 [some (qs 28), some (qi l1)] [] t D Q := vc_ok (cuts := [25]) 600 25 _ _ _ _ h
/-! 123 X9_fault -/
set_option maxRecDepth 100000 in
theorem b123_0 {S : (Nat → Int32) × Nat} {t : qT} {D : qD} {Q : Int → qT → qD → Prop} (h :
wp S 122 0 [some (qs 28), none] [] t D (fun x1 t1 D1 =>
  (Q x1 t1 D1))) : wp S 123 0 [some (qs 28)] [] t D Q := vc_ok (cuts := []) 600 0 _ _ _ _ h
/-! 124 X9_copy -/
set_option maxRecDepth 100000 in
theorem b124_0 {S : (Nat → Int32) × Nat} {t : qT} {D : qD} {Q : Int → qT → qD → Prop} {a b : Nat} (h :
wp S 124 2 [some (qs a), some (qs b), some (qi 0)] [] t D Q) : wp S 124 0 [some (qs a), some (qs b), none] [] t D Q := vc_ok (cuts := [2]) 600 0 _ _ _ _ h
set_option maxRecDepth 100000 in
theorem b124_2 {S : (Nat → Int32) × Nat} {t : qT} {D : qD} {Q : Int → qT → qD → Prop} {l2 : Int} {a b : Nat} (h :
chk ((qsT a).1 = 10)
(chk (qR l2)
  (chk (qR (qsT a).2)
    (if l2 < (qsT a).2 then
      (chk ((qsT a).1 = 10)
        (chk (0 ≤ l2 ∧ l2 < (qsT a).2)
          (chk ((qsT b).1 = 10)
            (chk (0 ≤ l2 ∧ l2 < (qsT b).2)
              (wp S 124 2 [some (qs a), some (qs b), some (qi (l2 + 1))] [] t (up D b l2 (D a l2)) Q)))))
      else
      (Q 0 t D))))) : wp S 124 2 [some (qs a), some (qs b), some (qi l2)] [] t D Q := vc_ok (cuts := [2]) 600 2 _ _ _ _ h
/-! 125 X9_doOp -/
set_option maxRecDepth 100000 in
theorem b125_0 {S : (Nat → Int32) × Nat} {t : qT} {D : qD} {Q : Int → qT → qD → Prop} {l1 l2 : Int} (h :
chk (0 ≤ ((24 * l1) + (3 * l2)) ∧ ((24 * l1) + (3 * l2)) < 72)
(chk (0 ≤ (((24 * l1) + (3 * l2)) + 1) ∧ (((24 * l1) + (3 * l2)) + 1) < 72)
  (chk (qR (D 39 ((24 * l1) + (3 * l2))))
    (if (D 39 ((24 * l1) + (3 * l2))) = 98 then
      (wp S 125 164 [some (qs 28), some (qi l1), some (qi l2), some (qi (D 39 ((24 * l1) + (3 * l2)))), some (qi (D 39 (((24 * l1) + (3 * l2)) + 1))), some (qi 0)] [] t D Q)
      else
      (if (D 39 ((24 * l1) + (3 * l2))) = 109 then
        (wp S 125 125 [some (qs 28), some (qi l1), some (qi l2), some (qi (D 39 ((24 * l1) + (3 * l2)))), some (qi (D 39 (((24 * l1) + (3 * l2)) + 1))), some (qi 0)] [] t (up D 28 24 ((D 28 24) + 1)) Q)
        else
        (if (D 39 ((24 * l1) + (3 * l2))) = 115 then
          (chk (0 ≤ (((24 * l1) + (3 * l2)) + 2) ∧ (((24 * l1) + (3 * l2)) + 2) < 72)
            (chk (0 ≤ (D 39 (((24 * l1) + (3 * l2)) + 1)) ∧ (D 39 (((24 * l1) + (3 * l2)) + 1)) < 16)
              (Q 0 t (up D 41 (D 39 (((24 * l1) + (3 * l2)) + 1)) (D 39 (((24 * l1) + (3 * l2)) + 2))))))
          else
          (if (D 39 ((24 * l1) + (3 * l2))) = 117 then
            (chk (0 ≤ (D 39 (((24 * l1) + (3 * l2)) + 1)) ∧ (D 39 (((24 * l1) + (3 * l2)) + 1)) < 16)
              (Q 0 t (up D 41 (D 39 (((24 * l1) + (3 * l2)) + 1)) (-1))))
            else
            (Q 0 t D)))))))) : wp S 125 0 [some (qs 28), some (qi l1), some (qi l2), none, none, none] [] t D Q := vc_ok (cuts := [125, 164]) 600 0 _ _ _ _ h
set_option maxRecDepth 100000 in
theorem b125_125 {S : (Nat → Int32) × Nat} {t : qT} {D : qD} {Q : Int → qT → qD → Prop} {l1 l2 l3 l4 l5 : Int} (h :
chk (qR l5)
(if l5 < 4 then
  (chk (0 ≤ l5 ∧ l5 < 16)
    (chk (0 ≤ ((4 * (D 28 24)) + l5) ∧ ((4 * (D 28 24)) + l5) < 16)
      (wp S 125 125 [some (qs 28), some (qi l1), some (qi l2), some (qi l3), some (qi l4), some (qi (l5 + 1))] [] t (up D 41 ((4 * (D 28 24)) + l5) (D 41 l5)) Q)))
  else
  (Q 0 t D))) : wp S 125 125 [some (qs 28), some (qi l1), some (qi l2), some (qi l3), some (qi l4), some (qi l5)] [] t D Q := vc_ok (cuts := [125, 164]) 600 125 _ _ _ _ h
set_option maxRecDepth 100000 in
theorem b125_164 {S : (Nat → Int32) × Nat} {t : qT} {D : qD} {Q : Int → qT → qD → Prop} {l1 l2 l3 l4 l5 : Int} (h :
chk (qR l5)
(if l5 < 4 then
  (chk (0 ≤ ((4 * (D 28 24)) + l5) ∧ ((4 * (D 28 24)) + l5) < 16)
    (chk (0 ≤ l5 ∧ l5 < 16)
      (chk (0 ≤ ((4 * ((up D 41 l5 (D 41 ((4 * (D 28 24)) + l5))) 28 24)) + l5) ∧ ((4 * ((up D 41 l5 (D 41 ((4 * (D 28 24)) + l5))) 28 24)) + l5) < 16)
        (wp S 125 164 [some (qs 28), some (qi l1), some (qi l2), some (qi l3), some (qi l4), some (qi (l5 + 1))] [] t (up (up D 41 l5 (D 41 ((4 * (D 28 24)) + l5))) 41 ((4 * ((up D 41 l5 (D 41 ((4 * (D 28 24)) + l5))) 28 24)) + l5) (-1)) Q))))
  else
  (Q 0 t (up D 28 24 ((D 28 24) - 1))))) : wp S 125 164 [some (qs 28), some (qi l1), some (qi l2), some (qi l3), some (qi l4), some (qi l5)] [] t D Q := vc_ok (cuts := [125, 164]) 600 164 _ _ _ _ h
/-! 126 X9_layFunction -/
set_option maxRecDepth 100000 in
theorem b126_0 {S : (Nat → Int32) × Nat} {t : qT} {D : qD} {Q : Int → qT → qD → Prop} {l1 : Int} (h :
wp S 126 2 [some (qs 28), some (qi l1), some (qi 0), none, none, none, none] [] t D Q) : wp S 126 0 [some (qs 28), some (qi l1), none, none, none, none, none] [] t D Q := vc_ok (cuts := [2, 33, 43, 182]) 600 0 _ _ _ _ h
set_option maxRecDepth 100000 in
theorem b126_2 {S : (Nat → Int32) × Nat} {t : qT} {D : qD} {Q : Int → qT → qD → Prop} {l1 l2 : Int} (h :
chk (qR l2)
(if l2 < 16 then
  (chk (0 ≤ l2 ∧ l2 < 16)
    (wp S 126 2 [some (qs 28), some (qi l1), some (qi (l2 + 1)), none, none, none, none] [] t (up D 41 l2 (-1)) Q))
  else
  (wp S 126 33 [some (qs 28), some (qi l1), some (qi 0), some (qi 0), some (qi 0), none, none] [] t (up D 28 24 0) Q))) : wp S 126 2 [some (qs 28), some (qi l1), some (qi l2), none, none, none, none] [] t D Q := vc_ok (cuts := [2, 33, 43, 182]) 600 2 _ _ _ _ h
set_option maxRecDepth 100000 in
theorem b126_33 {S : (Nat → Int32) × Nat} {t : qT} {D : qD} {Q : Int → qT → qD → Prop} {l1 l2 l3 l4 : Int} {o5 o6 : Option qV} (h :
chk (qR l4)
(if l4 < 10 then
  (wp S 126 43 [some (qs 28), some (qi l1), some (qi l2), some (qi l3), some (qi l4), some (qi 0), o6] [] t D Q)
  else
  (Q 0 t D))) : wp S 126 33 [some (qs 28), some (qi l1), some (qi l2), some (qi l3), some (qi l4), o5, o6] [] t D Q := vc_ok (cuts := [2, 33, 43, 182]) 600 33 _ _ _ _ h
set_option maxRecDepth 100000 in
theorem b126_43 {S : (Nat → Int32) × Nat} {t : qT} {D : qD} {Q : Int → qT → qD → Prop} {l1 l2 l3 l4 l5 : Int} {o6 : Option qV} (h :
chk (0 ≤ l1 ∧ l1 < 3)
(chk (qR l2)
  (chk (qR (D 37 l1))
    (if l2 < (D 37 l1) then
      (chk (0 ≤ ((24 * l1) + (3 * l2)) ∧ ((24 * l1) + (3 * l2)) < 72)
        (chk (qR (D 39 ((24 * l1) + (3 * l2))))
          (if (D 39 ((24 * l1) + (3 * l2))) = 43 then
            (chk (0 ≤ (((24 * l1) + (3 * l2)) + 1) ∧ (((24 * l1) + (3 * l2)) + 1) < 72)
              (chk (qR (l3 + (D 39 (((24 * l1) + (3 * l2)) + 1))))
                (chk (qR l4)
                  (if l4 < (l3 + (D 39 (((24 * l1) + (3 * l2)) + 1))) then
                    (wp S 126 182 [some (qs 28), some (qi l1), some (qi l2), some (qi l3), some (qi l4), some (qi l5), some (qi 0)] [] t D Q)
                    else
                    (chk (0 ≤ ((24 * l1) + (3 * l2)) ∧ ((24 * l1) + (3 * l2)) < 72)
                      (chk (qR (D 39 ((24 * l1) + (3 * l2))))
                        (if (D 39 ((24 * l1) + (3 * l2))) = 43 then
                        (chk (0 ≤ (((24 * l1) + (3 * l2)) + 1) ∧ (((24 * l1) + (3 * l2)) + 1) < 72)
                        (wp S 125 0 [some (qs 28), some (qi l1), some (qi l2), none, none, none] [] t D (fun _ t1 D1 =>
                        (chk (qR l5)
                        (if l5 = 0 then
                        (chk (0 ≤ ((24 * l1) + (3 * l2)) ∧ ((24 * l1) + (3 * l2)) < 72)
                        (chk (qR (D1 39 ((24 * l1) + (3 * l2))))
                        (if (D1 39 ((24 * l1) + (3 * l2))) = 43 then
                        (wp S 126 43 [some (qs 28), some (qi l1), some (qi (l2 + 1)), some (qi (l3 + (D 39 (((24 * l1) + (3 * l2)) + 1)))), some (qi l4), some (qi 0), o6] [] t1 D1 Q)
                        else
                        (wp S 126 43 [some (qs 28), some (qi l1), some (qi (l2 + 1)), some (qi (l3 + (D 39 (((24 * l1) + (3 * l2)) + 1)))), some (qi l4), some (qi 1), o6] [] t1 D1 Q))))
                        else
                        (wp S 126 43 [some (qs 28), some (qi l1), some (qi (l2 + 1)), some (qi (l3 + (D 39 (((24 * l1) + (3 * l2)) + 1)))), some (qi l4), some (qi 1), o6] [] t1 D1 Q))))))
                        else
                        (wp S 125 0 [some (qs 28), some (qi l1), some (qi l2), none, none, none] [] t D (fun _ t2 D2 =>
                        (chk (qR l5)
                        (if l5 = 0 then
                        (chk (0 ≤ ((24 * l1) + (3 * l2)) ∧ ((24 * l1) + (3 * l2)) < 72)
                        (chk (qR (D2 39 ((24 * l1) + (3 * l2))))
                        (if (D2 39 ((24 * l1) + (3 * l2))) = 43 then
                        (wp S 126 43 [some (qs 28), some (qi l1), some (qi (l2 + 1)), some (qi (l3 + 0)), some (qi l4), some (qi 0), o6] [] t2 D2 Q)
                        else
                        (wp S 126 43 [some (qs 28), some (qi l1), some (qi (l2 + 1)), some (qi (l3 + 0)), some (qi l4), some (qi 1), o6] [] t2 D2 Q))))
                        else
                        (wp S 126 43 [some (qs 28), some (qi l1), some (qi (l2 + 1)), some (qi (l3 + 0)), some (qi l4), some (qi 1), o6] [] t2 D2 Q))))))))))))
            else
            (chk (qR (l3 + 0))
              (chk (qR l4)
                (if l4 < (l3 + 0) then
                  (wp S 126 182 [some (qs 28), some (qi l1), some (qi l2), some (qi l3), some (qi l4), some (qi l5), some (qi 0)] [] t D Q)
                  else
                  (chk (0 ≤ ((24 * l1) + (3 * l2)) ∧ ((24 * l1) + (3 * l2)) < 72)
                    (chk (qR (D 39 ((24 * l1) + (3 * l2))))
                      (if (D 39 ((24 * l1) + (3 * l2))) = 43 then
                        (chk (0 ≤ (((24 * l1) + (3 * l2)) + 1) ∧ (((24 * l1) + (3 * l2)) + 1) < 72)
                        (wp S 125 0 [some (qs 28), some (qi l1), some (qi l2), none, none, none] [] t D (fun _ t3 D3 =>
                        (chk (qR l5)
                        (if l5 = 0 then
                        (chk (0 ≤ ((24 * l1) + (3 * l2)) ∧ ((24 * l1) + (3 * l2)) < 72)
                        (chk (qR (D3 39 ((24 * l1) + (3 * l2))))
                        (if (D3 39 ((24 * l1) + (3 * l2))) = 43 then
                        (wp S 126 43 [some (qs 28), some (qi l1), some (qi (l2 + 1)), some (qi (l3 + (D 39 (((24 * l1) + (3 * l2)) + 1)))), some (qi l4), some (qi 0), o6] [] t3 D3 Q)
                        else
                        (wp S 126 43 [some (qs 28), some (qi l1), some (qi (l2 + 1)), some (qi (l3 + (D 39 (((24 * l1) + (3 * l2)) + 1)))), some (qi l4), some (qi 1), o6] [] t3 D3 Q))))
                        else
                        (wp S 126 43 [some (qs 28), some (qi l1), some (qi (l2 + 1)), some (qi (l3 + (D 39 (((24 * l1) + (3 * l2)) + 1)))), some (qi l4), some (qi 1), o6] [] t3 D3 Q))))))
                        else
                        (wp S 125 0 [some (qs 28), some (qi l1), some (qi l2), none, none, none] [] t D (fun _ t4 D4 =>
                        (chk (qR l5)
                        (if l5 = 0 then
                        (chk (0 ≤ ((24 * l1) + (3 * l2)) ∧ ((24 * l1) + (3 * l2)) < 72)
                        (chk (qR (D4 39 ((24 * l1) + (3 * l2))))
                        (if (D4 39 ((24 * l1) + (3 * l2))) = 43 then
                        (wp S 126 43 [some (qs 28), some (qi l1), some (qi (l2 + 1)), some (qi (l3 + 0)), some (qi l4), some (qi 0), o6] [] t4 D4 Q)
                        else
                        (wp S 126 43 [some (qs 28), some (qi l1), some (qi (l2 + 1)), some (qi (l3 + 0)), some (qi l4), some (qi 1), o6] [] t4 D4 Q))))
                        else
                        (wp S 126 43 [some (qs 28), some (qi l1), some (qi (l2 + 1)), some (qi (l3 + 0)), some (qi l4), some (qi 1), o6] [] t4 D4 Q))))))))))))))
      else
      (wp S 126 182 [some (qs 28), some (qi l1), some (qi l2), some (qi l3), some (qi l4), some (qi l5), some (qi 0)] [] t D Q))))) : wp S 126 43 [some (qs 28), some (qi l1), some (qi l2), some (qi l3), some (qi l4), some (qi l5), o6] [] t D Q := vc_ok (cuts := [2, 33, 43, 182]) 600 43 _ _ _ _ h
set_option maxRecDepth 100000 in
theorem b126_182 {S : (Nat → Int32) × Nat} {t : qT} {D : qD} {Q : Int → qT → qD → Prop} {l1 l2 l3 l4 l5 l6 : Int} (h :
chk (qR l6)
(if l6 < 4 then
  (chk (0 ≤ l6 ∧ l6 < 16)
    (chk (0 ≤ (((40 * l1) + (4 * l4)) + l6) ∧ (((40 * l1) + (4 * l4)) + l6) < 120)
      (wp S 126 182 [some (qs 28), some (qi l1), some (qi l2), some (qi l3), some (qi l4), some (qi l5), some (qi (l6 + 1))] [] t (up D 34 (((40 * l1) + (4 * l4)) + l6) (D 41 l6)) Q)))
  else
  (chk (0 ≤ ((10 * l1) + l4) ∧ ((10 * l1) + l4) < 30)
    (chk (qR l5)
      (if l5 = 0 then
        (chk (qR l4)
          (if l4 = 0 then
            (chk (0 ≤ ((10 * l1) + l4) ∧ ((10 * l1) + l4) < 30)
              (wp S 126 33 [some (qs 28), some (qi l1), some (qi l2), some (qi l3), some (qi (l4 + 1)), some (qi l5), some (qi l6)] [] t (up (up D 35 ((10 * l1) + l4) (D 28 24)) 36 ((10 * l1) + l4) 0) Q))
            else
            (chk (0 ≤ (((10 * l1) + l4) - 1) ∧ (((10 * l1) + l4) - 1) < 30)
              (chk (0 ≤ ((10 * l1) + l4) ∧ ((10 * l1) + l4) < 30)
                (wp S 126 33 [some (qs 28), some (qi l1), some (qi l2), some (qi l3), some (qi (l4 + 1)), some (qi l5), some (qi l6)] [] t (up (up D 35 ((10 * l1) + l4) (D 28 24)) 36 ((10 * l1) + l4) ((up D 35 ((10 * l1) + l4) (D 28 24)) 36 (((10 * l1) + l4) - 1))) Q)))))
        else
        (chk (0 ≤ ((10 * l1) + l4) ∧ ((10 * l1) + l4) < 30)
          (wp S 126 33 [some (qs 28), some (qi l1), some (qi l2), some (qi l3), some (qi (l4 + 1)), some (qi l5), some (qi l6)] [] t (up (up D 35 ((10 * l1) + l4) (D 28 24)) 36 ((10 * l1) + l4) l4) Q))))))) : wp S 126 182 [some (qs 28), some (qi l1), some (qi l2), some (qi l3), some (qi l4), some (qi l5), some (qi l6)] [] t D Q := vc_ok (cuts := [2, 33, 43, 182]) 600 182 _ _ _ _ h
/-! 127 X9_text -/
set_option maxRecDepth 100000 in
theorem b127_0 {S : (Nat → Int32) × Nat} {t : qT} {D : qD} {Q : Int → qT → qD → Prop} (h :
wp S 122 0 [some (qs 28), none] [] t D (fun x1 t1 D1 =>
  (chk (qR x1)
    (chk (qR (D1 28 1))
      (if x1 < (D1 28 1) then
        (Q (-103) t1 D1)
        else
        (chk (qR (D1 28 5))
          (if (D1 28 5) = 0 then
            (Q (-103) t1 D1)
            else
            (chk (qR (D1 28 6))
              (if (D1 28 6) = 0 then
                (wp S 124 0 [some (qs 30), some (qs 37), none] [] t1 (up D1 28 14 ((D1 28 2) + 1)) (fun _ t2 D2 =>
                    (wp S 124 0 [some (qs 31), some (qs 38), none] [] t2 D2 (fun _ t3 D3 =>
                        (wp S 124 0 [some (qs 32), some (qs 39), none] [] t3 D3 (fun _ t4 D4 =>
                        (wp S 124 0 [some (qs 33), some (qs 40), none] [] t4 D4 (fun _ t5 D5 =>
                        (wp S 127 84 [some (qs 28), some (qi 0), none] [] t5 D5 Q)))))))))
                else
                (Q (-103) t1 D1)))))))))) : wp S 127 0 [some (qs 28), none, none] [] t D Q := vc_ok (cuts := [84, 105, 120]) 600 0 _ _ _ _ h
set_option maxRecDepth 100000 in
theorem b127_84 {S : (Nat → Int32) × Nat} {t : qT} {D : qD} {Q : Int → qT → qD → Prop} {l1 : Int} (h :
chk (qR l1)
(if l1 < 110 then
  (chk (0 ≤ l1 ∧ l1 < 110)
    (wp S 127 84 [some (qs 28), some (qi (l1 + 1)), none] [] t (up D 42 l1 0) Q))
  else
  (wp S 127 105 [some (qs 28), some (qi 0), none] [] t D Q))) : wp S 127 84 [some (qs 28), some (qi l1), none] [] t D Q := vc_ok (cuts := [84, 105, 120]) 600 84 _ _ _ _ h
set_option maxRecDepth 100000 in
theorem b127_105 {S : (Nat → Int32) × Nat} {t : qT} {D : qD} {Q : Int → qT → qD → Prop} {l1 : Int} {o2 : Option qV} (h :
chk (qR l1)
(chk (qR (D 28 14))
  (if l1 < (D 28 14) then
    (wp S 126 0 [some (qs 28), some (qi l1), none, none, none, none, none] [] t D (fun _ t1 D1 =>
        (wp S 127 120 [some (qs 28), some (qi l1), some (qi 0)] [] t1 D1 Q)))
    else
    (Q (D 28 14) t (up (up (up (up D 28 27 0) 28 31 0) 28 15 ((D 28 15) + 1)) 28 1 0))))) : wp S 127 105 [some (qs 28), some (qi l1), o2] [] t D Q := vc_ok (cuts := [84, 105, 120]) 600 105 _ _ _ _ h
set_option maxRecDepth 100000 in
theorem b127_120 {S : (Nat → Int32) × Nat} {t : qT} {D : qD} {Q : Int → qT → qD → Prop} {l1 l2 : Int} (h :
chk (0 ≤ l1 ∧ l1 < 3)
(chk (qR l2)
  (chk (qR (D 38 l1))
    (if l2 < (D 38 l1) then
      (chk (0 ≤ ((15 * l1) + (5 * l2)) ∧ ((15 * l1) + (5 * l2)) < 45)
        (chk (0 ≤ ((3 * l1) + l2) ∧ ((3 * l1) + l2) < 110)
          (wp S 127 120 [some (qs 28), some (qi l1), some (qi (l2 + 1))] [] t (up D 42 ((3 * l1) + l2) (D 40 ((15 * l1) + (5 * l2)))) Q)))
      else
      (wp S 127 105 [some (qs 28), some (qi (l1 + 1)), some (qi l2)] [] t D Q))))) : wp S 127 120 [some (qs 28), some (qi l1), some (qi l2)] [] t D Q := vc_ok (cuts := [84, 105, 120]) 600 120 _ _ _ _ h
/-! 128 X9_lacks -/
set_option maxRecDepth 100000 in
theorem b128_0 {S : (Nat → Int32) × Nat} {t : qT} {D : qD} {Q : Int → qT → qD → Prop} (h :
chk (qR (D 28 14))
(if (D 28 14) = 0 then
  (Q 1 t D)
  else
  (Q 0 t D))) : wp S 128 0 [some (qs 28)] [] t D Q := vc_ok (cuts := []) 600 0 _ _ _ _ h
/-! 129 X9_isFunction -/
set_option maxRecDepth 100000 in
theorem b129_0 {S : (Nat → Int32) × Nat} {t : qT} {D : qD} {Q : Int → qT → qD → Prop} {l1 : Int} (h :
chk (qR l1)
(chk (qR ((D 28 14) - 1))
  (wp S 110 0 [some (ql l1), none, some (ql 0), none, some (ql ((D 28 14) - 1)), none] [] t D (fun x1 t1 D1 =>
      (chk (x1 = 0 ∨ x1 = 1)
        (Q x1 t1 D1)))))) : wp S 129 0 [some (qs 28), some (qi l1)] [] t D Q := vc_ok (cuts := []) 600 0 _ _ _ _ h
/-! 130 X9_isPad -/
set_option maxRecDepth 100000 in
theorem b130_0 {S : (Nat → Int32) × Nat} {t : qT} {D : qD} {Q : Int → qT → qD → Prop} {l1 l2 : Int} (h :
wp S 129 0 [some (qs 28), some (qi l1)] [] t D (fun x1 t1 D1 =>
  (chk (qR x1)
    (if x1 = 0 then
      (Q 0 t1 D1)
      else
      (chk (qR l2)
        (chk (0 ≤ l1 ∧ l1 < 3)
          (chk (qR ((D1 38 l1) - 1))
            (wp S 110 0 [some (ql l2), none, some (ql 0), none, some (ql ((D1 38 l1) - 1)), none] [] t1 D1 (fun x2 t2 D2 =>
                (chk (qR x2)
                  (if x2 = 0 then
                    (Q 0 t2 D2)
                    else
                    (Q 1 t2 D2)))))))))))) : wp S 130 0 [some (qs 28), some (qi l1), some (qi l2)] [] t D Q := vc_ok (cuts := []) 600 0 _ _ _ _ h
/-! 131 X9_keep -/
set_option maxRecDepth 100000 in
theorem b131_0 {S : (Nat → Int32) × Nat} {t : qT} {D : qD} {Q : Int → qT → qD → Prop} (h :
chk (qR (D 28 27))
(if (D 28 27) = 30 then
  (wp S 131 11 [some (qs 28), some (qi 0)] [] t D Q)
  else
  (wp S 131 47 [some (qs 28), some (qi 0)] [] t D Q))) : wp S 131 0 [some (qs 28), none] [] t D Q := vc_ok (cuts := [11, 47]) 600 0 _ _ _ _ h
set_option maxRecDepth 100000 in
theorem b131_11 {S : (Nat → Int32) × Nat} {t : qT} {D : qD} {Q : Int → qT → qD → Prop} {l1 : Int} (h :
chk (qR l1)
(if l1 < 3190 then
  (chk (0 ≤ (l1 + 110) ∧ (l1 + 110) < 3300)
    (chk (0 ≤ l1 ∧ l1 < 3300)
      (wp S 131 11 [some (qs 28), some (qi (l1 + 1))] [] t (up D 43 l1 (D 43 (l1 + 110))) Q)))
  else
  (wp S 131 47 [some (qs 28), some (qi 0)] [] t (up D 28 27 29) Q))) : wp S 131 11 [some (qs 28), some (qi l1)] [] t D Q := vc_ok (cuts := [11, 47]) 600 11 _ _ _ _ h
set_option maxRecDepth 100000 in
theorem b131_47 {S : (Nat → Int32) × Nat} {t : qT} {D : qD} {Q : Int → qT → qD → Prop} {l1 : Int} (h :
chk (qR l1)
(if l1 < 110 then
  (chk (0 ≤ l1 ∧ l1 < 110)
    (chk (0 ≤ ((110 * (D 28 27)) + l1) ∧ ((110 * (D 28 27)) + l1) < 3300)
      (wp S 131 47 [some (qs 28), some (qi (l1 + 1))] [] t (up D 43 ((110 * (D 28 27)) + l1) (D 42 l1)) Q)))
  else
  (Q 0 t (up D 28 27 ((D 28 27) + 1))))) : wp S 131 47 [some (qs 28), some (qi l1)] [] t D Q := vc_ok (cuts := [11, 47]) 600 47 _ _ _ _ h
/-! 132 X9_undo -/
set_option maxRecDepth 100000 in
theorem b132_0 {S : (Nat → Int32) × Nat} {t : qT} {D : qD} {Q : Int → qT → qD → Prop} (h :
chk (qR (D 28 27))
(if (D 28 27) = 0 then
  (Q (-103) t D)
  else
  (wp S 132 22 [some (qs 28), some (qi 0)] [] t (up D 28 27 ((D 28 27) - 1)) Q))) : wp S 132 0 [some (qs 28), none] [] t D Q := vc_ok (cuts := [22]) 600 0 _ _ _ _ h
set_option maxRecDepth 100000 in
theorem b132_22 {S : (Nat → Int32) × Nat} {t : qT} {D : qD} {Q : Int → qT → qD → Prop} {l1 : Int} (h :
chk (qR l1)
(if l1 < 110 then
  (chk (0 ≤ ((110 * (D 28 27)) + l1) ∧ ((110 * (D 28 27)) + l1) < 3300)
    (chk (0 ≤ l1 ∧ l1 < 110)
      (wp S 132 22 [some (qs 28), some (qi (l1 + 1))] [] t (up D 42 l1 (D 43 ((110 * (D 28 27)) + l1))) Q)))
  else
  (Q (D 28 27) t D))) : wp S 132 22 [some (qs 28), some (qi l1)] [] t D Q := vc_ok (cuts := [22]) 600 22 _ _ _ _ h
/-! 133 X9_frames -/
set_option maxRecDepth 100000 in
theorem b133_0 {S : (Nat → Int32) × Nat} {t : qT} {D : qD} {Q : Int → qT → qD → Prop} (h :
Q (D 42 13) t D) : wp S 133 0 [some (qs 28)] [] t D Q := vc_ok (cuts := []) 600 0 _ _ _ _ h
/-! 134 X9_frameAt -/
set_option maxRecDepth 100000 in
theorem b134_0 {S : (Nat → Int32) × Nat} {t : qT} {D : qD} {Q : Int → qT → qD → Prop} {l1 : Int} (h :
Q (14 + (8 * (((D 42 13) - 1) - l1))) t D) : wp S 134 0 [some (qs 28), some (qi l1)] [] t D Q := vc_ok (cuts := []) 600 0 _ _ _ _ h
/-! 135 X9_saveAt -/
set_option maxRecDepth 100000 in
theorem b135_0 {S : (Nat → Int32) × Nat} {t : qT} {D : qD} {Q : Int → qT → qD → Prop} {l1 : Int} (h :
chk (0 ≤ l1 ∧ l1 < 110)
(wp S 135 12 [some (qs 28), some (qi l1), some (qi (D 42 l1)), some (qi 0), some (qi 0), none] [] t D Q)) : wp S 135 0 [some (qs 28), some (qi l1), none, none, none, none] [] t D Q := vc_ok (cuts := [12]) 600 0 _ _ _ _ h
set_option maxRecDepth 100000 in
theorem b135_12 {S : (Nat → Int32) × Nat} {t : qT} {D : qD} {Q : Int → qT → qD → Prop} {l1 l2 l3 l4 : Int} {o5 : Option qV} (h :
chk (0 ≤ l2 ∧ l2 < 3)
(chk (qR l4)
  (chk (qR (D 37 l2))
    (if l4 < (D 37 l2) then
      (chk (0 ≤ ((24 * l2) + (3 * l4)) ∧ ((24 * l2) + (3 * l4)) < 72)
        (chk (qR (D 39 ((24 * l2) + (3 * l4))))
          (if (D 39 ((24 * l2) + (3 * l4))) = 43 then
            (chk (0 ≤ (((24 * l2) + (3 * l4)) + 1) ∧ (((24 * l2) + (3 * l4)) + 1) < 72)
              (chk (0 ≤ ((24 * l2) + (3 * l4)) ∧ ((24 * l2) + (3 * l4)) < 72)
                (chk (qR (D 39 ((24 * l2) + (3 * l4))))
                  (if (D 39 ((24 * l2) + (3 * l4))) = 115 then
                    (chk (0 ≤ (l1 + 1) ∧ (l1 + 1) < 110)
                      (chk (qR (l3 + (D 39 (((24 * l2) + (3 * l4)) + 1))))
                        (chk (qR (D 42 (l1 + 1)))
                        (if (l3 + (D 39 (((24 * l2) + (3 * l4)) + 1))) = (D 42 (l1 + 1)) then
                        (chk (0 ≤ (((24 * l2) + (3 * l4)) + 2) ∧ (((24 * l2) + (3 * l4)) + 2) < 72)
                        (chk (0 ≤ (((24 * l2) + (3 * l4)) + 1) ∧ (((24 * l2) + (3 * l4)) + 1) < 72)
                        (chk (0 ≤ (9 + (D 39 (((24 * l2) + (3 * l4)) + 1))) ∧ (9 + (D 39 (((24 * l2) + (3 * l4)) + 1))) < 110)
                        (chk (0 ≤ ((l1 + 2) + (D 39 (((24 * l2) + (3 * l4)) + 2))) ∧ ((l1 + 2) + (D 39 (((24 * l2) + (3 * l4)) + 2))) < 110)
                        (wp S 135 12 [some (qs 28), some (qi l1), some (qi l2), some (qi (l3 + (D 39 (((24 * l2) + (3 * l4)) + 1)))), some (qi (l4 + 1)), some (qi ((24 * l2) + (3 * l4)))] [] t (up D 42 ((l1 + 2) + (D 39 (((24 * l2) + (3 * l4)) + 2))) (D 42 (9 + (D 39 (((24 * l2) + (3 * l4)) + 1))))) Q)))))
                        else
                        (wp S 135 12 [some (qs 28), some (qi l1), some (qi l2), some (qi (l3 + (D 39 (((24 * l2) + (3 * l4)) + 1)))), some (qi (l4 + 1)), some (qi ((24 * l2) + (3 * l4)))] [] t D Q)))))
                    else
                    (wp S 135 12 [some (qs 28), some (qi l1), some (qi l2), some (qi (l3 + (D 39 (((24 * l2) + (3 * l4)) + 1)))), some (qi (l4 + 1)), some (qi ((24 * l2) + (3 * l4)))] [] t D Q)))))
            else
            (chk (0 ≤ ((24 * l2) + (3 * l4)) ∧ ((24 * l2) + (3 * l4)) < 72)
              (chk (qR (D 39 ((24 * l2) + (3 * l4))))
                (if (D 39 ((24 * l2) + (3 * l4))) = 115 then
                  (chk (0 ≤ (l1 + 1) ∧ (l1 + 1) < 110)
                    (chk (qR (l3 + 0))
                      (chk (qR (D 42 (l1 + 1)))
                        (if (l3 + 0) = (D 42 (l1 + 1)) then
                        (chk (0 ≤ (((24 * l2) + (3 * l4)) + 2) ∧ (((24 * l2) + (3 * l4)) + 2) < 72)
                        (chk (0 ≤ (((24 * l2) + (3 * l4)) + 1) ∧ (((24 * l2) + (3 * l4)) + 1) < 72)
                        (chk (0 ≤ (9 + (D 39 (((24 * l2) + (3 * l4)) + 1))) ∧ (9 + (D 39 (((24 * l2) + (3 * l4)) + 1))) < 110)
                        (chk (0 ≤ ((l1 + 2) + (D 39 (((24 * l2) + (3 * l4)) + 2))) ∧ ((l1 + 2) + (D 39 (((24 * l2) + (3 * l4)) + 2))) < 110)
                        (wp S 135 12 [some (qs 28), some (qi l1), some (qi l2), some (qi (l3 + 0)), some (qi (l4 + 1)), some (qi ((24 * l2) + (3 * l4)))] [] t (up D 42 ((l1 + 2) + (D 39 (((24 * l2) + (3 * l4)) + 2))) (D 42 (9 + (D 39 (((24 * l2) + (3 * l4)) + 1))))) Q)))))
                        else
                        (wp S 135 12 [some (qs 28), some (qi l1), some (qi l2), some (qi (l3 + 0)), some (qi (l4 + 1)), some (qi ((24 * l2) + (3 * l4)))] [] t D Q)))))
                  else
                  (wp S 135 12 [some (qs 28), some (qi l1), some (qi l2), some (qi (l3 + 0)), some (qi (l4 + 1)), some (qi ((24 * l2) + (3 * l4)))] [] t D Q)))))))
      else
      (Q 0 t D))))) : wp S 135 12 [some (qs 28), some (qi l1), some (qi l2), some (qi l3), some (qi l4), o5] [] t D Q := vc_ok (cuts := [12]) 600 12 _ _ _ _ h
/-! 136 X9_doCall -/
set_option maxRecDepth 100000 in
theorem b136_0 {S : (Nat → Int32) × Nat} {t : qT} {D : qD} {Q : Int → qT → qD → Prop} {l1 : Int} (h :
wp S 134 0 [some (qs 28), some (qi 0)] [] t (up D 42 13 ((D 42 13) + 1)) (fun x1 t1 D1 =>
  (wp S 136 19 [some (qs 28), some (qi l1), some (qi x1), some (qi 0)] [] t1 D1 Q))) : wp S 136 0 [some (qs 28), some (qi l1), none, none] [] t D Q := vc_ok (cuts := [19]) 600 0 _ _ _ _ h
set_option maxRecDepth 100000 in
theorem b136_19 {S : (Nat → Int32) × Nat} {t : qT} {D : qD} {Q : Int → qT → qD → Prop} {l1 l2 l3 : Int} (h :
chk (qR l3)
(if l3 < 8 then
  (chk (0 ≤ (l2 + l3) ∧ (l2 + l3) < 110)
    (wp S 136 19 [some (qs 28), some (qi l1), some (qi l2), some (qi (l3 + 1))] [] t (up D 42 (l2 + l3) 0) Q))
  else
  (chk (0 ≤ l2 ∧ l2 < 110)
    (wp S 135 0 [some (qs 28), some (qi l2), none, none, none, none] [] t (up D 42 l2 l1) (fun _ t1 D1 =>
        (Q 0 t1 D1)))))) : wp S 136 19 [some (qs 28), some (qi l1), some (qi l2), some (qi l3)] [] t D Q := vc_ok (cuts := [19]) 600 19 _ _ _ _ h
/-! 137 X9_doGo -/
set_option maxRecDepth 100000 in
theorem b137_0 {S : (Nat → Int32) × Nat} {t : qT} {D : qD} {Q : Int → qT → qD → Prop} {l1 : Int} (h :
wp S 134 0 [some (qs 28), some (qi 0)] [] t D (fun x1 t1 D1 =>
  (wp S 137 8 [some (qs 28), some (qi l1), some (qi x1), some (qi 0)] [] t1 D1 Q))) : wp S 137 0 [some (qs 28), some (qi l1), none, none] [] t D Q := vc_ok (cuts := [8]) 600 0 _ _ _ _ h
set_option maxRecDepth 100000 in
theorem b137_8 {S : (Nat → Int32) × Nat} {t : qT} {D : qD} {Q : Int → qT → qD → Prop} {l1 l2 l3 : Int} (h :
chk (qR l3)
(chk (qR l1)
  (if l3 < l1 then
    (chk (0 ≤ (l2 + 1) ∧ (l2 + 1) < 110)
      (chk (0 ≤ (l2 + 1) ∧ (l2 + 1) < 110)
        (wp S 135 0 [some (qs 28), some (qi l2), none, none, none, none] [] t (up D 42 (l2 + 1) ((D 42 (l2 + 1)) + 1)) (fun _ t1 D1 =>
            (wp S 137 8 [some (qs 28), some (qi l1), some (qi l2), some (qi (l3 + 1))] [] t1 D1 Q)))))
    else
    (Q 0 t D)))) : wp S 137 8 [some (qs 28), some (qi l1), some (qi l2), some (qi l3)] [] t D Q := vc_ok (cuts := [8]) 600 8 _ _ _ _ h
