/-! blocks of the law's own methods, written by wip/p30/mklaw.py -/
/-! 96 L_cell -/
set_option maxRecDepth 100000 in
theorem lb96_0 {S : (Nat → Int32) × Nat} {t : qT} {D : qD} {Q : Int → qT → qD → Prop} {l1 : Int} (h :
chk (qR l1)
(chk (qR (S.2 : Int))
  (if l1 < (S.2 : Int) then
    (chk (0 ≤ l1 ∧ l1 < S.2 ∧ l1 < 2147483648)
      (Q (S.1 (l1).toNat).toInt t D))
    else
    (Q (747796405 * (l1 + 1)) t D)))) : wp S 96 0 [some qx, some (qi l1)] [] t D Q := vc_ok (cuts := []) 600 0 _ _ _ _ h
/-! 97 L_at -/
set_option maxRecDepth 100000 in
theorem lb97_0 {S : (Nat → Int32) × Nat} {t : qT} {D : qD} {Q : Int → qT → qD → Prop} {l0 l1 : Int} (h :
chk (0 ≤ (qusr l0 1) ∧ (qusr l0 1) < 2147483648)
(chk (0 < l1 ∧ l1 < 2147483648)
  (Q ((qusr l0 1) % l1) t D))) : wp S 97 0 [some (qi l0), some (qi l1)] [] t D Q := vc_ok (cuts := []) 600 0 _ _ _ _ h
/-! 99 L_letterOf -/
set_option maxRecDepth 100000 in
theorem lb99_0 {S : (Nat → Int32) × Nat} {t : qT} {D : qD} {Q : Int → qT → qD → Prop} {l0 : Int} (h :
chk (qR l0)
(if l0 = 0 then
  (Q 99 t D)
  else
  (chk (qR l0)
    (if l0 = 1 then
      (Q 97 t D)
      else
      (chk (qR l0)
        (if l0 = 2 then
          (Q 102 t D)
          else
          (chk (qR l0)
            (if l0 = 3 then
              (Q 117 t D)
              else
              (Q 103 t D))))))))) : wp S 99 0 [some (qi l0)] [] t D Q := vc_ok (cuts := []) 600 0 _ _ _ _ h
/-! 101 L_row -/
set_option maxRecDepth 100000 in
theorem lb101_0 {S : (Nat → Int32) × Nat} {t : qT} {D : qD} {Q : Int → qT → qD → Prop} {l2 l3 : Int} {ar : Nat} (h :
wp S 101 9 [some (qs 28), some (qs 30), some (qi l2), some (qi l3), some (qr ar), some (qr t.2.2.1), some (qi 0), none, none, none] [] ((nwT t.1 t.2.2.1 (10, 16)), (nwP t.2.1 t.2.2.1), ((t.2.2.1 + 1), (t.2.2.2 + 16))) (upr D t.2.2.1 (fun _ => 0)) Q) : wp S 101 0 [some (qs 28), some (qs 30), some (qi l2), some (qi l3), some (qr ar), none, none, none, none, none] [] t D Q := vc_ok (cuts := [9, 48, 121, 179]) 600 0 _ _ _ _ h
set_option maxRecDepth 100000 in
theorem lb101_9 {S : (Nat → Int32) × Nat} {t : qT} {D : qD} {Q : Int → qT → qD → Prop} {l2 l3 l6 : Int} {ar l5 : Nat} (h :
chk (qR l6)
(if l6 < 6 then
  (chk (qR l6)
    (if l6 < 4 then
      (chk ((t.1 ar).1 = 10)
        (chk (0 ≤ l6 ∧ l6 < (t.1 ar).2)
          (wp S 101 9 [some (qs 28), some (qs 30), some (qi l2), some (qi l3), some (qr ar), some (qr l5), some (qi (l6 + 1)), none, none, none] [] t (up D ar l6 (-1)) Q)))
      else
      (chk ((t.1 ar).1 = 10)
        (chk (0 ≤ l6 ∧ l6 < (t.1 ar).2)
          (wp S 101 9 [some (qs 28), some (qs 30), some (qi l2), some (qi l3), some (qr ar), some (qr l5), some (qi (l6 + 1)), none, none, none] [] t (up D ar l6 0) Q)))))
  else
  (chk (0 ≤ (1 + l2) ∧ (1 + l2) < 16)
    (wp S 101 48 [some (qs 28), some (qs 30), some (qi l2), some (qi l3), some (qr ar), some (qr l5), some (qi (D 28 (1 + l2))), some (qi 0), none, none] [] t D Q)))) : wp S 101 9 [some (qs 28), some (qs 30), some (qi l2), some (qi l3), some (qr ar), some (qr l5), some (qi l6), none, none, none] [] t D Q := vc_ok (cuts := [9, 48, 121, 179]) 600 9 _ _ _ _ h
set_option maxRecDepth 100000 in
theorem lb101_48 {S : (Nat → Int32) × Nat} {t : qT} {D : qD} {Q : Int → qT → qD → Prop} {l2 l3 l6 l7 : Int} {ar l5 : Nat} {o8 o9 : Option qV} (h :
chk (0 ≤ l6 ∧ l6 < 64)
(chk (qR (D 30 l6))
  (if (D 30 l6) = 59 then
    (Q 0 t D)
    else
    (chk (0 ≤ l6 ∧ l6 < 64)
      (chk (qR (D 30 l6))
        (if (D 30 l6) = 43 then
          (chk (0 ≤ (l6 + 1) ∧ (l6 + 1) < 64)
            (chk (qR (l7 + ((D 30 (l6 + 1)) - 48)))
              (chk (qR l3)
                (if l3 < (l7 + ((D 30 (l6 + 1)) - 48)) then
                  (Q 0 t D)
                  else
                  (chk (qR (D 30 l6))
                    (if (D 30 l6) = 43 then
                      (wp S 101 48 [some (qs 28), some (qs 30), some (qi l2), some (qi l3), some (qr ar), some (qr l5), some (qi ((l6 + 1) + 1)), some (qi (l7 + ((D 30 (l6 + 1)) - 48))), some (qi (D 30 l6)), o9] [] t D Q)
                      else
                      (chk ((t.1 ar).1 = 10)
                        (chk ((0 : Int) ≤ 5 ∧ 5 < (t.1 ar).2)
                        (chk (qR (D 30 l6))
                        (if (D 30 l6) = 109 then
                        (wp S 101 121 [some (qs 28), some (qs 30), some (qi l2), some (qi l3), some (qr ar), some (qr l5), some (qi ((l6 + 1) + 1)), some (qi (l7 + ((D 30 (l6 + 1)) - 48))), some (qi (D 30 l6)), some (qi 0)] [] t (up D ar 5 (l7 + ((D 30 (l6 + 1)) - 48))) Q)
                        else
                        (chk (qR (D 30 l6))
                        (if (D 30 l6) = 98 then
                        (chk ((t.1 ar).1 = 10)
                        (chk ((0 : Int) ≤ 4 ∧ 4 < (t.1 ar).2)
                        (chk ((t.1 ar).1 = 10)
                        (chk ((0 : Int) ≤ 4 ∧ 4 < (t.1 ar).2)
                        (wp S 101 179 [some (qs 28), some (qs 30), some (qi l2), some (qi l3), some (qr ar), some (qr l5), some (qi ((l6 + 1) + 1)), some (qi (l7 + ((D 30 (l6 + 1)) - 48))), some (qi (D 30 l6)), some (qi 0)] [] t (up (up D ar 5 (l7 + ((D 30 (l6 + 1)) - 48))) ar 4 (((up D ar 5 (l7 + ((D 30 (l6 + 1)) - 48))) ar 4) - 1)) Q)))))
                        else
                        (chk (qR (D 30 l6))
                        (if (D 30 l6) = 117 then
                        (chk (0 ≤ ((l6 + 1) + 1) ∧ ((l6 + 1) + 1) < 64)
                        (chk ((t.1 ar).1 = 10)
                        (chk (0 ≤ (((up D ar 5 (l7 + ((D 30 (l6 + 1)) - 48))) 30 ((l6 + 1) + 1)) - 48) ∧ (((up D ar 5 (l7 + ((D 30 (l6 + 1)) - 48))) 30 ((l6 + 1) + 1)) - 48) < (t.1 ar).2)
                        (wp S 101 48 [some (qs 28), some (qs 30), some (qi l2), some (qi l3), some (qr ar), some (qr l5), some (qi (((l6 + 1) + 1) + 1)), some (qi (l7 + ((D 30 (l6 + 1)) - 48))), some (qi (D 30 l6)), o9] [] t (up (up D ar 5 (l7 + ((D 30 (l6 + 1)) - 48))) ar (((up D ar 5 (l7 + ((D 30 (l6 + 1)) - 48))) 30 ((l6 + 1) + 1)) - 48) (-1)) Q))))
                        else
                        (chk (0 ≤ ((l6 + 1) + 1) ∧ ((l6 + 1) + 1) < 64)
                        (chk (0 ≤ (((l6 + 1) + 1) + 1) ∧ (((l6 + 1) + 1) + 1) < 64)
                        (chk ((t.1 ar).1 = 10)
                        (chk (0 ≤ (((up D ar 5 (l7 + ((D 30 (l6 + 1)) - 48))) 30 ((l6 + 1) + 1)) - 48) ∧ (((up D ar 5 (l7 + ((D 30 (l6 + 1)) - 48))) 30 ((l6 + 1) + 1)) - 48) < (t.1 ar).2)
                        (wp S 101 48 [some (qs 28), some (qs 30), some (qi l2), some (qi l3), some (qr ar), some (qr l5), some (qi (((l6 + 1) + 1) + 2)), some (qi (l7 + ((D 30 (l6 + 1)) - 48))), some (qi (D 30 l6)), o9] [] t (up (up D ar 5 (l7 + ((D 30 (l6 + 1)) - 48))) ar (((up D ar 5 (l7 + ((D 30 (l6 + 1)) - 48))) 30 ((l6 + 1) + 1)) - 48) (((up D ar 5 (l7 + ((D 30 (l6 + 1)) - 48))) 30 (((l6 + 1) + 1) + 1)) - 48)) Q)))))))))))))))))))
          else
          (chk (qR l7)
            (chk (qR l3)
              (if l3 < l7 then
                (Q 0 t D)
                else
                (chk (qR (D 30 l6))
                  (if (D 30 l6) = 43 then
                    (wp S 101 48 [some (qs 28), some (qs 30), some (qi l2), some (qi l3), some (qr ar), some (qr l5), some (qi (l6 + 1)), some (qi l7), some (qi (D 30 l6)), o9] [] t D Q)
                    else
                    (chk ((t.1 ar).1 = 10)
                      (chk ((0 : Int) ≤ 5 ∧ 5 < (t.1 ar).2)
                        (chk (qR (D 30 l6))
                        (if (D 30 l6) = 109 then
                        (wp S 101 121 [some (qs 28), some (qs 30), some (qi l2), some (qi l3), some (qr ar), some (qr l5), some (qi (l6 + 1)), some (qi l7), some (qi (D 30 l6)), some (qi 0)] [] t (up D ar 5 l7) Q)
                        else
                        (chk (qR (D 30 l6))
                        (if (D 30 l6) = 98 then
                        (chk ((t.1 ar).1 = 10)
                        (chk ((0 : Int) ≤ 4 ∧ 4 < (t.1 ar).2)
                        (chk ((t.1 ar).1 = 10)
                        (chk ((0 : Int) ≤ 4 ∧ 4 < (t.1 ar).2)
                        (wp S 101 179 [some (qs 28), some (qs 30), some (qi l2), some (qi l3), some (qr ar), some (qr l5), some (qi (l6 + 1)), some (qi l7), some (qi (D 30 l6)), some (qi 0)] [] t (up (up D ar 5 l7) ar 4 (((up D ar 5 l7) ar 4) - 1)) Q)))))
                        else
                        (chk (qR (D 30 l6))
                        (if (D 30 l6) = 117 then
                        (chk (0 ≤ (l6 + 1) ∧ (l6 + 1) < 64)
                        (chk ((t.1 ar).1 = 10)
                        (chk (0 ≤ (((up D ar 5 l7) 30 (l6 + 1)) - 48) ∧ (((up D ar 5 l7) 30 (l6 + 1)) - 48) < (t.1 ar).2)
                        (wp S 101 48 [some (qs 28), some (qs 30), some (qi l2), some (qi l3), some (qr ar), some (qr l5), some (qi ((l6 + 1) + 1)), some (qi l7), some (qi (D 30 l6)), o9] [] t (up (up D ar 5 l7) ar (((up D ar 5 l7) 30 (l6 + 1)) - 48) (-1)) Q))))
                        else
                        (chk (0 ≤ (l6 + 1) ∧ (l6 + 1) < 64)
                        (chk (0 ≤ ((l6 + 1) + 1) ∧ ((l6 + 1) + 1) < 64)
                        (chk ((t.1 ar).1 = 10)
                        (chk (0 ≤ (((up D ar 5 l7) 30 (l6 + 1)) - 48) ∧ (((up D ar 5 l7) 30 (l6 + 1)) - 48) < (t.1 ar).2)
                        (wp S 101 48 [some (qs 28), some (qs 30), some (qi l2), some (qi l3), some (qr ar), some (qr l5), some (qi ((l6 + 1) + 2)), some (qi l7), some (qi (D 30 l6)), o9] [] t (up (up D ar 5 l7) ar (((up D ar 5 l7) 30 (l6 + 1)) - 48) (((up D ar 5 l7) 30 ((l6 + 1) + 1)) - 48)) Q)))))))))))))))))))))))) : wp S 101 48 [some (qs 28), some (qs 30), some (qi l2), some (qi l3), some (qr ar), some (qr l5), some (qi l6), some (qi l7), o8, o9] [] t D Q := vc_ok (cuts := [9, 48, 121, 179]) 600 48 _ _ _ _ h
set_option maxRecDepth 100000 in
theorem lb101_121 {S : (Nat → Int32) × Nat} {t : qT} {D : qD} {Q : Int → qT → qD → Prop} {l2 l3 l6 l7 l8 l9 : Int} {ar l5 : Nat} (h :
chk (qR l9)
(if l9 < 4 then
  (chk ((t.1 ar).1 = 10)
    (chk ((0 : Int) ≤ 4 ∧ 4 < (t.1 ar).2)
      (chk ((t.1 ar).1 = 10)
        (chk (0 ≤ l9 ∧ l9 < (t.1 ar).2)
          (chk ((t.1 l5).1 = 10)
            (chk (0 ≤ ((4 * (D ar 4)) + l9) ∧ ((4 * (D ar 4)) + l9) < (t.1 l5).2)
              (wp S 101 121 [some (qs 28), some (qs 30), some (qi l2), some (qi l3), some (qr ar), some (qr l5), some (qi l6), some (qi l7), some (qi l8), some (qi (l9 + 1))] [] t (up D l5 ((4 * (D ar 4)) + l9) (D ar l9)) Q)))))))
  else
  (chk ((t.1 ar).1 = 10)
    (chk ((0 : Int) ≤ 4 ∧ 4 < (t.1 ar).2)
      (chk ((t.1 ar).1 = 10)
        (chk ((0 : Int) ≤ 4 ∧ 4 < (t.1 ar).2)
          (wp S 101 48 [some (qs 28), some (qs 30), some (qi l2), some (qi l3), some (qr ar), some (qr l5), some (qi l6), some (qi l7), some (qi l8), some (qi l9)] [] t (up D ar 4 ((D ar 4) + 1)) Q))))))) : wp S 101 121 [some (qs 28), some (qs 30), some (qi l2), some (qi l3), some (qr ar), some (qr l5), some (qi l6), some (qi l7), some (qi l8), some (qi l9)] [] t D Q := vc_ok (cuts := [9, 48, 121, 179]) 600 121 _ _ _ _ h
set_option maxRecDepth 100000 in
theorem lb101_179 {S : (Nat → Int32) × Nat} {t : qT} {D : qD} {Q : Int → qT → qD → Prop} {l2 l3 l6 l7 l8 l9 : Int} {ar l5 : Nat} (h :
chk (qR l9)
(if l9 < 4 then
  (chk ((t.1 ar).1 = 10)
    (chk ((0 : Int) ≤ 4 ∧ 4 < (t.1 ar).2)
      (chk ((t.1 l5).1 = 10)
        (chk (0 ≤ ((4 * (D ar 4)) + l9) ∧ ((4 * (D ar 4)) + l9) < (t.1 l5).2)
          (chk ((t.1 ar).1 = 10)
            (chk (0 ≤ l9 ∧ l9 < (t.1 ar).2)
              (wp S 101 179 [some (qs 28), some (qs 30), some (qi l2), some (qi l3), some (qr ar), some (qr l5), some (qi l6), some (qi l7), some (qi l8), some (qi (l9 + 1))] [] t (up D ar l9 (D l5 ((4 * (D ar 4)) + l9))) Q)))))))
  else
  (wp S 101 48 [some (qs 28), some (qs 30), some (qi l2), some (qi l3), some (qr ar), some (qr l5), some (qi l6), some (qi l7), some (qi l8), some (qi l9)] [] t D Q))) : wp S 101 179 [some (qs 28), some (qs 30), some (qi l2), some (qi l3), some (qr ar), some (qr l5), some (qi l6), some (qi l7), some (qi l8), some (qi l9)] [] t D Q := vc_ok (cuts := [9, 48, 121, 179]) 600 179 _ _ _ _ h
/-! 102 L_come -/
set_option maxRecDepth 100000 in
theorem lb102_0 {S : (Nat → Int32) × Nat} {t : qT} {D : qD} {Q : Int → qT → qD → Prop} {l4 : Int} {am aw : Nat} (h :
chk ((t.1 am).1 = 10)
(chk ((0 : Int) ≤ 4 ∧ 4 < (t.1 am).2)
  (chk ((t.1 aw).1 = 10)
    (chk (0 ≤ ((8 * ((D am 4) - 1)) + 1) ∧ ((8 * ((D am 4) - 1)) + 1) < (t.1 aw).2)
      (chk ((t.1 aw).1 = 10)
        (chk (0 ≤ (8 * ((D am 4) - 1)) ∧ (8 * ((D am 4) - 1)) < (t.1 aw).2)
          (chk (0 ≤ (1 + ((up D aw ((8 * ((D am 4) - 1)) + 1) l4) aw (8 * ((D am 4) - 1)))) ∧ (1 + ((up D aw ((8 * ((D am 4) - 1)) + 1) l4) aw (8 * ((D am 4) - 1)))) < 16)
            (wp S 102 31 [some (qs 28), some (qs 30), some (qr am), some (qr aw), some (qi l4), some (qi (8 * ((D am 4) - 1))), some (qi ((up D aw ((8 * ((D am 4) - 1)) + 1) l4) 28 (1 + ((up D aw ((8 * ((D am 4) - 1)) + 1) l4) aw (8 * ((D am 4) - 1)))))), some (qi 0), none] [] t (up D aw ((8 * ((D am 4) - 1)) + 1) l4) Q)))))))) : wp S 102 0 [some (qs 28), some (qs 30), some (qr am), some (qr aw), some (qi l4), none, none, none, none] [] t D Q := vc_ok (cuts := [31]) 600 0 _ _ _ _ h
set_option maxRecDepth 100000 in
theorem lb102_31 {S : (Nat → Int32) × Nat} {t : qT} {D : qD} {Q : Int → qT → qD → Prop} {l4 l5 l6 l7 : Int} {am aw : Nat} {o8 : Option qV} (h :
chk (0 ≤ l6 ∧ l6 < 64)
(chk (qR (D 30 l6))
  (if (D 30 l6) = 59 then
    (Q 0 t D)
    else
    (chk (0 ≤ l6 ∧ l6 < 64)
      (chk (qR (D 30 l6))
        (if (D 30 l6) = 43 then
          (chk (0 ≤ (l6 + 1) ∧ (l6 + 1) < 64)
            (wp S 102 31 [some (qs 28), some (qs 30), some (qr am), some (qr aw), some (qi l4), some (qi l5), some (qi ((l6 + 1) + 1)), some (qi (l7 + ((D 30 (l6 + 1)) - 48))), some (qi (D 30 l6))] [] t D Q))
          else
          (chk (qR (D 30 l6))
            (if (D 30 l6) = 115 then
              (chk (qR l7)
                (chk (qR l4)
                  (if l7 = l4 then
                    (chk (0 ≤ ((l6 + 1) + 1) ∧ ((l6 + 1) + 1) < 64)
                      (chk (0 ≤ (l6 + 1) ∧ (l6 + 1) < 64)
                        (chk ((t.1 am).1 = 10)
                        (chk (0 ≤ ((D 30 (l6 + 1)) - 48) ∧ ((D 30 (l6 + 1)) - 48) < (t.1 am).2)
                        (chk ((t.1 aw).1 = 10)
                        (chk (0 ≤ (((l5 + 2) + (D 30 ((l6 + 1) + 1))) - 48) ∧ (((l5 + 2) + (D 30 ((l6 + 1) + 1))) - 48) < (t.1 aw).2)
                        (wp S 102 31 [some (qs 28), some (qs 30), some (qr am), some (qr aw), some (qi l4), some (qi l5), some (qi ((l6 + 1) + 2)), some (qi l7), some (qi (D 30 l6))] [] t (up D aw (((l5 + 2) + (D 30 ((l6 + 1) + 1))) - 48) (D am ((D 30 (l6 + 1)) - 48))) Q)))))))
                    else
                    (wp S 102 31 [some (qs 28), some (qs 30), some (qr am), some (qr aw), some (qi l4), some (qi l5), some (qi ((l6 + 1) + 2)), some (qi l7), some (qi (D 30 l6))] [] t D Q))))
              else
              (chk (qR (D 30 l6))
                (if (D 30 l6) = 117 then
                  (wp S 102 31 [some (qs 28), some (qs 30), some (qr am), some (qr aw), some (qi l4), some (qi l5), some (qi ((l6 + 1) + 1)), some (qi l7), some (qi (D 30 l6))] [] t D Q)
                  else
                  (wp S 102 31 [some (qs 28), some (qs 30), some (qr am), some (qr aw), some (qi l4), some (qi l5), some (qi (l6 + 1)), some (qi l7), some (qi (D 30 l6))] [] t D Q))))))))))) : wp S 102 31 [some (qs 28), some (qs 30), some (qr am), some (qr aw), some (qi l4), some (qi l5), some (qi l6), some (qi l7), o8] [] t D Q := vc_ok (cuts := [31]) 600 31 _ _ _ _ h
/-! 103 L_callNow -/
set_option maxRecDepth 100000 in
theorem lb103_0 {S : (Nat → Int32) × Nat} {t : qT} {D : qD} {Q : Int → qT → qD → Prop} {l4 : Int} {am aw : Nat} (h :
chk ((t.1 am).1 = 10)
(chk ((0 : Int) ≤ 4 ∧ 4 < (t.1 am).2)
  (chk ((t.1 am).1 = 10)
    (chk ((0 : Int) ≤ 4 ∧ 4 < (t.1 am).2)
      (chk ((t.1 am).1 = 10)
        (chk ((0 : Int) ≤ 4 ∧ 4 < (t.1 am).2)
          (wp S 103 20 [some (qs 28), some (qs 30), some (qr am), some (qr aw), some (qi l4), some (qi (8 * (((up D am 4 ((D am 4) + 1)) am 4) - 1))), some (qi 0)] [] t (up D am 4 ((D am 4) + 1)) Q))))))) : wp S 103 0 [some (qs 28), some (qs 30), some (qr am), some (qr aw), some (qi l4), none, none] [] t D Q := vc_ok (cuts := [20]) 600 0 _ _ _ _ h
set_option maxRecDepth 100000 in
theorem lb103_20 {S : (Nat → Int32) × Nat} {t : qT} {D : qD} {Q : Int → qT → qD → Prop} {l4 l5 l6 : Int} {am aw : Nat} (h :
chk (qR l6)
(if l6 < 8 then
  (chk ((t.1 aw).1 = 10)
    (chk (0 ≤ (l5 + l6) ∧ (l5 + l6) < (t.1 aw).2)
      (wp S 103 20 [some (qs 28), some (qs 30), some (qr am), some (qr aw), some (qi l4), some (qi l5), some (qi (l6 + 1))] [] t (up D aw (l5 + l6) 0) Q)))
  else
  (chk ((t.1 aw).1 = 10)
    (chk (0 ≤ l5 ∧ l5 < (t.1 aw).2)
      (wp S 102 0 [some (qs 28), some (qs 30), some (qr am), some (qr aw), some (qi 0), none, none, none, none] [] t (up D aw l5 l4) (fun _ t1 D1 =>
          (Q 0 t1 D1))))))) : wp S 103 20 [some (qs 28), some (qs 30), some (qr am), some (qr aw), some (qi l4), some (qi l5), some (qi l6)] [] t D Q := vc_ok (cuts := [20]) 600 20 _ _ _ _ h
/-! 104 L_back -/
set_option maxRecDepth 100000 in
theorem lb104_0 {S : (Nat → Int32) × Nat} {t : qT} {D : qD} {Q : Int → qT → qD → Prop} {l3 : Int} {aw am : Nat} (h :
chk (((nwT t.1 t.2.2.1 (10, 6)) aw).1 = 10)
(chk (0 ≤ (8 * l3) ∧ (8 * l3) < ((nwT t.1 t.2.2.1 (10, 6)) aw).2)
  (chk (((nwT t.1 t.2.2.1 (10, 6)) aw).1 = 10)
    (chk (0 ≤ ((8 * l3) + 1) ∧ ((8 * l3) + 1) < ((nwT t.1 t.2.2.1 (10, 6)) aw).2)
      (wp S 101 0 [some (qs 28), some (qs 30), some (qi ((upr D t.2.2.1 (fun _ => 0)) aw (8 * l3))), some (qi ((upr D t.2.2.1 (fun _ => 0)) aw ((8 * l3) + 1))), some (qr t.2.2.1), none, none, none, none, none] [] ((nwT t.1 t.2.2.1 (10, 6)), (nwP t.2.1 t.2.2.1), ((t.2.2.1 + 1), (t.2.2.2 + 6))) (upr D t.2.2.1 (fun _ => 0)) (fun _ t1 D1 =>
          (wp S 104 30 [some (qs 28), some (qs 30), some (qr aw), some (qi l3), some (qr am), some (qr t.2.2.1), some (qi 0)] [] t1 D1 Q))))))) : wp S 104 0 [some (qs 28), some (qs 30), some (qr aw), some (qi l3), some (qr am), none, none] [] t D Q := vc_ok (cuts := [30]) 600 0 _ _ _ _ h
set_option maxRecDepth 100000 in
theorem lb104_30 {S : (Nat → Int32) × Nat} {t : qT} {D : qD} {Q : Int → qT → qD → Prop} {l3 l6 : Int} {aw am l5 : Nat} (h :
chk (qR l6)
(if l6 < 4 then
  (chk ((t.1 l5).1 = 10)
    (chk (0 ≤ l6 ∧ l6 < (t.1 l5).2)
      (chk (qR (D l5 l6))
        (if (D l5 l6) < 0 then
          (wp S 104 30 [some (qs 28), some (qs 30), some (qr aw), some (qi l3), some (qr am), some (qr l5), some (qi (l6 + 1))] [] t D Q)
          else
          (chk ((t.1 l5).1 = 10)
            (chk (0 ≤ l6 ∧ l6 < (t.1 l5).2)
              (chk ((t.1 aw).1 = 10)
                (chk (0 ≤ (((8 * l3) + 2) + (D l5 l6)) ∧ (((8 * l3) + 2) + (D l5 l6)) < (t.1 aw).2)
                  (chk ((t.1 am).1 = 10)
                    (chk (0 ≤ l6 ∧ l6 < (t.1 am).2)
                      (wp S 104 30 [some (qs 28), some (qs 30), some (qr aw), some (qi l3), some (qr am), some (qr l5), some (qi (l6 + 1))] [] t (up D am l6 (D aw (((8 * l3) + 2) + (D l5 l6)))) Q)))))))))))
  else
  (Q 0 t D))) : wp S 104 30 [some (qs 28), some (qs 30), some (qr aw), some (qi l3), some (qr am), some (qr l5), some (qi l6)] [] t D Q := vc_ok (cuts := [30]) 600 30 _ _ _ _ h
/-! 105 L_does -/
set_option maxRecDepth 100000 in
theorem lb105_0 {S : (Nat → Int32) × Nat} {t : qT} {D : qD} {Q : Int → qT → qD → Prop} {l0 l1 l2 : Int} (h :
chk (qR l0)
(if l0 = 1 then
  (Q 1 t D)
  else
  (chk (qR l0)
    (if l0 = 2 then
      (Q 2 t D)
      else
      (chk (qR l0)
        (if l0 = 3 then
          (chk (qR l2)
            (chk (qR l1)
              (if l2 < l1 then
                (Q 0 t D)
                else
                (Q 1 t D))))
          else
          (chk (qR l2)
            (chk (qR l1)
              (if l2 = l1 then
                (Q 1 t D)
                else
                (chk (qR l0)
                  (if l0 = 4 then
                    (Q 2 t D)
                    else
                    (Q 0 t D)))))))))))) : wp S 105 0 [some (qi l0), some (qi l1), some (qi l2)] [] t D Q := vc_ok (cuts := []) 600 0 _ _ _ _ h
/-! 106 L_look -/
set_option maxRecDepth 100000 in
theorem lb106_0 {S : (Nat → Int32) × Nat} {t : qT} {D : qD} {Q : Int → qT → qD → Prop} {l5 : Int} {am aw ag : Nat} (h :
chk ((t.1 ag).1 = 10)
(chk ((0 : Int) ≤ 0 ∧ 0 < (t.1 ag).2)
  (chk ((t.1 ag).1 = 10)
    (chk ((0 : Int) ≤ 1 ∧ 1 < (t.1 ag).2)
      (chk ((t.1 ag).1 = 10)
        (chk ((0 : Int) ≤ 2 ∧ 2 < (t.1 ag).2)
          (wp S 106 18 [some (qs 28), some (qs 29), some (qs 30), some (qr am), some (qr aw), some (qi l5), some (qr ag), some (qi 0), none, none, none, none, none] [] t (up (up (up D ag 0 (-1)) ag 1 (-1)) ag 2 0) Q))))))) : wp S 106 0 [some (qs 28), some (qs 29), some (qs 30), some (qr am), some (qr aw), some (qi l5), some (qr ag), none, none, none, none, none, none] [] t D Q := vc_ok (cuts := [18, 49]) 600 0 _ _ _ _ h
set_option maxRecDepth 100000 in
theorem lb106_18 {S : (Nat → Int32) × Nat} {t : qT} {D : qD} {Q : Int → qT → qD → Prop} {l5 l7 : Int} {am aw ag : Nat} {o8 o9 o10 o11 o12 : Option qV} (h :
chk ((t.1 am).1 = 10)
(chk ((0 : Int) ≤ 4 ∧ 4 < (t.1 am).2)
  (chk (qR l7)
    (chk (qR (D am 4))
      (if l7 < (D am 4) then
        (chk ((t.1 am).1 = 10)
          (chk ((0 : Int) ≤ 4 ∧ 4 < (t.1 am).2)
            (chk ((t.1 aw).1 = 10)
              (chk (0 ≤ (8 * (((D am 4) - 1) - l7)) ∧ (8 * (((D am 4) - 1) - l7)) < (t.1 aw).2)
                (wp S 106 49 [some (qs 28), some (qs 29), some (qs 30), some (qr am), some (qr aw), some (qi l5), some (qr ag), some (qi l7), some (qi (8 * (((D am 4) - 1) - l7))), some (qi (D aw (8 * (((D am 4) - 1) - l7)))), some (qi 0), o11, o12] [] t D Q)))))
        else
        (Q 0 t D)))))) : wp S 106 18 [some (qs 28), some (qs 29), some (qs 30), some (qr am), some (qr aw), some (qi l5), some (qr ag), some (qi l7), o8, o9, o10, o11, o12] [] t D Q := vc_ok (cuts := [18, 49]) 600 18 _ _ _ _ h
set_option maxRecDepth 100000 in
theorem lb106_49 {S : (Nat → Int32) × Nat} {t : qT} {D : qD} {Q : Int → qT → qD → Prop} {l5 l7 l8 l9 l10 : Int} {am aw ag : Nat} {o11 o12 : Option qV} (h :
chk (0 ≤ (4 + l9) ∧ (4 + l9) < 16)
(chk (qR l10)
  (chk (qR (D 28 (4 + l9)))
    (if l10 < (D 28 (4 + l9)) then
      (chk (0 ≤ ((7 + (3 * l9)) + l10) ∧ ((7 + (3 * l9)) + l10) < 16)
        (chk ((t.1 aw).1 = 10)
          (chk (0 ≤ (l8 + 1) ∧ (l8 + 1) < (t.1 aw).2)
            (chk (0 ≤ ((D 28 ((7 + (3 * l9)) + l10)) + 1) ∧ ((D 28 ((7 + (3 * l9)) + l10)) + 1) < 64)
              (chk (qR (D aw (l8 + 1)))
                (chk (qR ((D 30 ((D 28 ((7 + (3 * l9)) + l10)) + 1)) - 48))
                  (if (D aw (l8 + 1)) < ((D 30 ((D 28 ((7 + (3 * l9)) + l10)) + 1)) - 48) then
                    (wp S 106 49 [some (qs 28), some (qs 29), some (qs 30), some (qr am), some (qr aw), some (qi l5), some (qr ag), some (qi l7), some (qi l8), some (qi l9), some (qi (l10 + 1)), some (qi (D 28 ((7 + (3 * l9)) + l10))), o12] [] t D Q)
                    else
                    (chk ((t.1 aw).1 = 10)
                      (chk (0 ≤ (l8 + 1) ∧ (l8 + 1) < (t.1 aw).2)
                        (chk (0 ≤ ((D 28 ((7 + (3 * l9)) + l10)) + 2) ∧ ((D 28 ((7 + (3 * l9)) + l10)) + 2) < 64)
                        (chk (qR (D aw (l8 + 1)))
                        (chk (qR ((D 30 ((D 28 ((7 + (3 * l9)) + l10)) + 2)) - 48))
                        (if ((D 30 ((D 28 ((7 + (3 * l9)) + l10)) + 2)) - 48) < (D aw (l8 + 1)) then
                        (wp S 106 49 [some (qs 28), some (qs 29), some (qs 30), some (qr am), some (qr aw), some (qi l5), some (qr ag), some (qi l7), some (qi l8), some (qi l9), some (qi (l10 + 1)), some (qi (D 28 ((7 + (3 * l9)) + l10))), o12] [] t D Q)
                        else
                        (chk (0 ≤ ((3 * l9) + l10) ∧ ((3 * l9) + l10) < 9)
                        (chk (0 ≤ ((D 28 ((7 + (3 * l9)) + l10)) + 3) ∧ ((D 28 ((7 + (3 * l9)) + l10)) + 3) < 64)
                        (wp S 105 0 [some (qi (D 29 ((3 * l9) + l10))), some (qi ((D 30 ((D 28 ((7 + (3 * l9)) + l10)) + 3)) - 48)), some (qi l5)] [] t D (fun x1 t1 D1 =>
                        (chk (qR x1)
                        (if x1 = 2 then
                        (chk ((t1.1 ag).1 = 10)
                        (chk ((0 : Int) ≤ 2 ∧ 2 < (t1.1 ag).2)
                        (chk ((t1.1 ag).1 = 10)
                        (chk (0 ≤ (3 + (D1 ag 2)) ∧ (3 + (D1 ag 2)) < (t1.1 ag).2)
                        (chk ((t1.1 ag).1 = 10)
                        (chk ((0 : Int) ≤ 2 ∧ 2 < (t1.1 ag).2)
                        (chk ((t1.1 ag).1 = 10)
                        (chk ((0 : Int) ≤ 2 ∧ 2 < (t1.1 ag).2)
                        (chk (qR x1)
                        (if x1 = 1 then
                        (chk ((t1.1 ag).1 = 10)
                        (chk ((0 : Int) ≤ 0 ∧ 0 < (t1.1 ag).2)
                        (chk ((t1.1 ag).1 = 10)
                        (chk ((0 : Int) ≤ 1 ∧ 1 < (t1.1 ag).2)
                        (Q 0 t1 (up (up (up (up D1 ag (3 + (D1 ag 2)) ((10 * l9) + l10)) ag 2 (((up D1 ag (3 + (D1 ag 2)) ((10 * l9) + l10)) ag 2) + 1)) ag 0 l7) ag 1 l10))))))
                        else
                        (wp S 106 49 [some (qs 28), some (qs 29), some (qs 30), some (qr am), some (qr aw), some (qi l5), some (qr ag), some (qi l7), some (qi l8), some (qi l9), some (qi (l10 + 1)), some (qi (D 28 ((7 + (3 * l9)) + l10))), some (qi x1)] [] t1 (up (up D1 ag (3 + (D1 ag 2)) ((10 * l9) + l10)) ag 2 (((up D1 ag (3 + (D1 ag 2)) ((10 * l9) + l10)) ag 2) + 1)) Q)))))))))))
                        else
                        (chk (qR x1)
                        (if x1 = 1 then
                        (chk ((t1.1 ag).1 = 10)
                        (chk ((0 : Int) ≤ 0 ∧ 0 < (t1.1 ag).2)
                        (chk ((t1.1 ag).1 = 10)
                        (chk ((0 : Int) ≤ 1 ∧ 1 < (t1.1 ag).2)
                        (Q 0 t1 (up (up D1 ag 0 l7) ag 1 l10))))))
                        else
                        (wp S 106 49 [some (qs 28), some (qs 29), some (qs 30), some (qr am), some (qr aw), some (qi l5), some (qr ag), some (qi l7), some (qi l8), some (qi l9), some (qi (l10 + 1)), some (qi (D 28 ((7 + (3 * l9)) + l10))), some (qi x1)] [] t1 D1 Q))))))))))))))))))))))
      else
      (wp S 106 18 [some (qs 28), some (qs 29), some (qs 30), some (qr am), some (qr aw), some (qi l5), some (qr ag), some (qi (l7 + 1)), some (qi l8), some (qi l9), some (qi l10), o11, o12] [] t D Q))))) : wp S 106 49 [some (qs 28), some (qs 29), some (qs 30), some (qr am), some (qr aw), some (qi l5), some (qr ag), some (qi l7), some (qi l8), some (qi l9), some (qi l10), o11, o12] [] t D Q := vc_ok (cuts := [18, 49]) 600 49 _ _ _ _ h
/-! 107 L_throwNow -/
set_option maxRecDepth 100000 in
theorem lb107_0 {S : (Nat → Int32) × Nat} {t : qT} {D : qD} {Q : Int → qT → qD → Prop} {am aw ag : Nat} (h :
wp S 107 3 [some (qs 28), some (qs 30), some (qr am), some (qr aw), some (qr ag), some (qi 0)] [] t D Q) : wp S 107 0 [some (qs 28), some (qs 30), some (qr am), some (qr aw), some (qr ag), none] [] t D Q := vc_ok (cuts := [3]) 600 0 _ _ _ _ h
set_option maxRecDepth 100000 in
theorem lb107_3 {S : (Nat → Int32) × Nat} {t : qT} {D : qD} {Q : Int → qT → qD → Prop} {l5 : Int} {am aw ag : Nat} (h :
chk ((t.1 ag).1 = 10)
(chk ((0 : Int) ≤ 0 ∧ 0 < (t.1 ag).2)
  (chk (qR l5)
    (chk (qR (D ag 0))
      (if l5 < (D ag 0) then
        (chk ((t.1 am).1 = 10)
          (chk ((0 : Int) ≤ 4 ∧ 4 < (t.1 am).2)
            (chk ((t.1 am).1 = 10)
              (chk ((0 : Int) ≤ 4 ∧ 4 < (t.1 am).2)
                (chk ((t.1 am).1 = 10)
                  (chk ((0 : Int) ≤ 4 ∧ 4 < (t.1 am).2)
                    (wp S 104 0 [some (qs 28), some (qs 30), some (qr aw), some (qi ((up D am 4 ((D am 4) - 1)) am 4)), some (qr am), none, none] [] t (up D am 4 ((D am 4) - 1)) (fun _ t1 D1 =>
                        (wp S 107 3 [some (qs 28), some (qs 30), some (qr am), some (qr aw), some (qr ag), some (qi (l5 + 1))] [] t1 D1 Q)))))))))
        else
        (chk ((t.1 am).1 = 10)
          (chk ((0 : Int) ≤ 4 ∧ 4 < (t.1 am).2)
            (chk ((t.1 aw).1 = 10)
              (chk (0 ≤ (8 * ((D am 4) - 1)) ∧ (8 * ((D am 4) - 1)) < (t.1 aw).2)
                (chk ((t.1 ag).1 = 10)
                  (chk ((0 : Int) ≤ 1 ∧ 1 < (t.1 ag).2)
                    (chk (0 ≤ ((7 + (3 * (D aw (8 * ((D am 4) - 1))))) + (D ag 1)) ∧ ((7 + (3 * (D aw (8 * ((D am 4) - 1))))) + (D ag 1)) < 16)
                      (chk (0 ≤ ((D 28 ((7 + (3 * (D aw (8 * ((D am 4) - 1))))) + (D ag 1))) + 4) ∧ ((D 28 ((7 + (3 * (D aw (8 * ((D am 4) - 1))))) + (D ag 1))) + 4) < 64)
                        (chk ((t.1 aw).1 = 10)
                        (chk (0 ≤ ((8 * ((D am 4) - 1)) + 1) ∧ ((8 * ((D am 4) - 1)) + 1) < (t.1 aw).2)
                        (Q 0 t (up D aw ((8 * ((D am 4) - 1)) + 1) ((D 30 ((D 28 ((7 + (3 * (D aw (8 * ((D am 4) - 1))))) + (D ag 1))) + 4)) - 48)))))))))))))))))) : wp S 107 3 [some (qs 28), some (qs 30), some (qr am), some (qr aw), some (qr ag), some (qi l5)] [] t D Q := vc_ok (cuts := [3]) 600 3 _ _ _ _ h
/-! 110 L_copy -/
set_option maxRecDepth 100000 in
theorem lb110_0 {S : (Nat → Int32) × Nat} {t : qT} {D : qD} {Q : Int → qT → qD → Prop} {l2 : Int} {am aw : Nat} (h :
wp S 110 2 [some (qr am), some (qr aw), some (qi l2), some (qi 0)] [] t D Q) : wp S 110 0 [some (qr am), some (qr aw), some (qi l2), none] [] t D Q := vc_ok (cuts := [2]) 600 0 _ _ _ _ h
set_option maxRecDepth 100000 in
theorem lb110_2 {S : (Nat → Int32) × Nat} {t : qT} {D : qD} {Q : Int → qT → qD → Prop} {l2 l3 : Int} {am aw : Nat} (h :
chk (qR l3)
(chk (qR l2)
  (if l3 < l2 then
    (chk ((t.1 aw).1 = 10)
      (chk (0 ≤ l3 ∧ l3 < (t.1 aw).2)
        (chk ((t.1 am).1 = 10)
          (chk (0 ≤ l3 ∧ l3 < (t.1 am).2)
            (wp S 110 2 [some (qr am), some (qr aw), some (qi l2), some (qi (l3 + 1))] [] t (up D am l3 (D aw l3)) Q)))))
    else
    (Q 0 t D)))) : wp S 110 2 [some (qr am), some (qr aw), some (qi l2), some (qi l3)] [] t D Q := vc_ok (cuts := [2]) 600 2 _ _ _ _ h
/-! 115 L_after -/
set_option maxRecDepth 100000 in
theorem lb115_0 {S : (Nat → Int32) × Nat} {t : qT} {D : qD} {Q : Int → qT → qD → Prop} {l0 : Int} (h :
chk (0 ≤ ((l0 * 1103515245) + 12345) ∧ ((l0 * 1103515245) + 12345) < 9223372036854775808)
(Q (((l0 * 1103515245) + 12345) % 2147483648) t D)) : wp S 115 0 [some (ql l0), none] [] t D Q := vc_ok (cuts := []) 600 0 _ _ _ _ h
