/-! blocks, written by wip/whole/mkblk.py: what each stretch of a method asks -/
/-! 68 X8_letter -/
set_option maxRecDepth 100000 in
theorem b68_0 {S : (Nat → Int32) × Nat} {t : qT} {D : qD} {Q : Int → qT → qD → Prop} {l1 : Int} (h :
chk (qR l1)
(if l1 < 1 then
  (Q (-102) t D)
  else
  (chk (qR l1)
    (if 126 < l1 then
      (Q (-102) t D)
      else
      (chk (qR (D 1 1))
        (if (D 1 1) < 100 then
          (wp S 38 0 [some (qs 1), some (qi l1)] [] t D (fun _ t1 D1 =>
              (Q (D1 1 1) t1 D1)))
          else
          (Q (-104) t D))))))) : wp S 64 0 [some (qs 0), some (qi l1)] [] t D Q := vc_ok (cuts := []) 600 0 _ _ _ _ h
/-! 69 X8_blank -/
/-! 70 X8_fault -/
set_option maxRecDepth 100000 in
theorem b70_0 {S : (Nat → Int32) × Nat} {t : qT} {D : qD} {Q : Int → qT → qD → Prop} (h :
chk (((nwT t.1 t.2.2.1 (5, 0)) t.2.2.1).1 ≠ 8)
(wp S 41 0 [some (qr t.2.2.1)] [] ((nwT t.1 t.2.2.1 (5, 0)), (nwP t.2.1 t.2.2.1), ((t.2.2.1 + 1), (t.2.2.2 + 7))) (upr D t.2.2.1 (fun _ => 0)) (fun _ t1 D1 =>
    (chk ((t1.1 t.2.2.1).1 = 5)
      (wp S 42 0 [some (qr t.2.2.1), some (qs 1), none] [] t1 D1 (fun x2 t2 D2 =>
          (Q x2 t2 D2))))))) : wp S 65 0 [some (qs 0)] [] t D Q := vc_ok (cuts := []) 600 0 _ _ _ _ h
/-! 71 X8_text -/
set_option maxRecDepth 100000 in
theorem b71_0 {S : (Nat → Int32) × Nat} {t : qT} {D : qD} {Q : Int → qT → qD → Prop} (h :
chk (((nwT t.1 t.2.2.1 (5, 0)) t.2.2.1).1 ≠ 8)
(wp S 41 0 [some (qr t.2.2.1)] [] ((nwT t.1 t.2.2.1 (5, 0)), (nwP t.2.1 t.2.2.1), ((t.2.2.1 + 1), (t.2.2.2 + 7))) (upr D t.2.2.1 (fun _ => 0)) (fun _ t1 D1 =>
    (chk ((t1.1 t.2.2.1).1 = 5)
      (wp S 42 0 [some (qr t.2.2.1), some (qs 1), none] [] t1 D1 (fun x2 t2 D2 =>
          (chk (qR x2)
            (chk (qR (D2 1 1))
              (if x2 < (D2 1 1) then
                (Q (-103) t2 D2)
                else
                (chk ((t2.1 t.2.2.1).1 = 5)
                  (wp S 43 0 [some (qr t.2.2.1)] [] t2 D2 (fun x3 t3 D3 =>
                      (chk (qR x3)
                        (if x3 = 0 then
                        (Q (-103) t3 D3)
                        else
                        (chk (((nwT t3.1 t3.2.2.1 (0, 0)) t3.2.2.1).1 ≠ 8)
                        (wp S 0 0 [some (qr t3.2.2.1)] [] ((nwT t3.1 t3.2.2.1 (0, 0)), (nwP t3.2.1 t3.2.2.1), ((t3.2.2.1 + 1), (t3.2.2.2 + 6))) (upr D3 t3.2.2.1 (fun _ => 0)) (fun _ t4 D4 =>
                        (chk (((nwT t4.1 t4.2.2.1 (6, 0)) t4.2.2.1).1 ≠ 8)
                        (wp S 51 0 [some (qr t4.2.2.1), some (qs 1), some (qr t3.2.2.1)] [] ((nwT t4.1 t4.2.2.1 (6, 0)), (nwP t4.2.1 t4.2.2.1), ((t4.2.2.1 + 1), (t4.2.2.2 + 8))) (upr D4 t4.2.2.1 (fun _ => 0)) (fun _ t5 D5 =>
                        (chk ((t5.1 t4.2.2.1).1 = 6)
                        (wp S 52 0 [some (qr t4.2.2.1), none] [] t5 D5 (fun _ t6 D6 =>
                        (chk (((nwT t6.1 t6.2.2.1 (3, 0)) t6.2.2.1).1 ≠ 8)
                        (wp S 22 0 [some (qr t6.2.2.1), some (qr t3.2.2.1), none, none] [] ((nwT t6.1 t6.2.2.1 (3, 0)), (nwP t6.2.1 t6.2.2.1), ((t6.2.2.1 + 1), (t6.2.2.2 + 9))) (upr D6 t6.2.2.1 (fun _ => 0)) (fun _ t7 D7 =>
                        (wp S 20 0 [some (qs 3)] [] (t7.1, (upP t7.2.1 0 5 t6.2.2.1), t7.2.2) D7 (fun _ t8 D8 =>
                        (chk ((t8.1 t3.2.2.1).1 = 0)
                        (Q ((up (up (up D8 7 3 0) 1 1 0) 0 7 ((D8 0 7) + 1)) t3.2.2.1 0) (t8.1, (upP t8.2.1 0 6 0), t8.2.2) (up (up (up D8 7 3 0) 1 1 0) 0 7 ((D8 0 7) + 1)))))))))))))))))))))))))))))))) : wp S 66 0 [some (qs 0), none, none] [] t D Q := vc_ok (cuts := []) 600 0 _ _ _ _ h
/-! 72 X8_row -/
set_option maxRecDepth 100000 in
theorem b72_0 {S : (Nat → Int32) × Nat} {t : qT} {D : qD} {Q : Int → qT → qD → Prop} {l1 l2 l3 : Int} (h :
wp S 85 0 [some (qs 0), some (qi l1)] [] t D (fun x1 t1 D1 =>
  (chk (qR x1)
    (if x1 = 0 then
      (Q (-101) t1 D1)
      else
      (wp S 88 0 [some (qi l2), some (qi 10)] [] t1 D1 (fun x2 t2 D2 =>
          (chk (qR x2)
            (if x2 = 0 then
              (Q (-101) t2 D2)
              else
              (wp S 88 0 [some (qi l3), some (qi 6)] [] t2 D2 (fun x3 t3 D3 =>
                  (chk (qR x3)
                    (if x3 = 0 then
                      (Q (-102) t3 D3)
                      else
                      (chk ((t3.1 (t3.2.1 0 5)).1 = 3)
                        (chk ((t3.1 (t3.2.1 (t3.2.1 0 5) 0)).1 = 0)
                        (wp S 1 0 [some (qr (t3.2.1 (t3.2.1 0 5) 0)), some (qi l1), some (qi l2), some (qi l3)] [] t3 D3 (fun x4 t4 D4 =>
                        (Q x4 t4 D4))))))))))))))))) : wp S 67 0 [some (qs 0), some (qi l1), some (qi l2), some (qi l3)] [] t D Q := vc_ok (cuts := []) 600 0 _ _ _ _ h
/-! 73 X8_pad -/
set_option maxRecDepth 100000 in
theorem b73_0 {S : (Nat → Int32) × Nat} {t : qT} {D : qD} {Q : Int → qT → qD → Prop} {l1 l2 l3 : Int} (h :
wp S 86 0 [some (qs 0), some (qi l1), some (qi l2)] [] t D (fun x1 t1 D1 =>
  (chk (qR x1)
    (if x1 = 0 then
      (Q (-101) t1 D1)
      else
      (wp S 88 0 [some (qi l3), some (qi 7)] [] t1 D1 (fun x2 t2 D2 =>
          (chk (qR x2)
            (if x2 = 0 then
              (Q (-102) t2 D2)
              else
              (chk (qR l3)
                (if l3 = 0 then
                  (chk ((t2.1 (t2.2.1 0 5)).1 = 3)
                    (wp S 89 0 [some (qi l1), some (qi l2)] [] t2 D2 (fun x3 t3 D3 =>
                        (chk ((t3.1 (t2.2.1 (t2.2.1 0 5) 1)).1 = 10)
                        (chk (0 ≤ x3 ∧ x3 < (t3.1 (t2.2.1 (t2.2.1 0 5) 1)).2)
                        (Q (D3 (t2.2.1 (t2.2.1 0 5) 1) x3) t3 D3))))))
                  else
                  (chk (qR l3)
                    (if 4 < l3 then
                      (chk ((t2.1 (t2.2.1 0 5)).1 = 3)
                        (chk ((t2.1 (t2.2.1 (t2.2.1 0 5) 0)).1 = 0)
                        (wp S 5 0 [some (qr (t2.2.1 (t2.2.1 0 5) 0)), some (qi l1), some (qi l2), some (qi 3)] [] t2 D2 (fun x4 t4 D4 =>
                        (wp S 89 0 [some (qi l1), some (qi l2)] [] t4 D4 (fun x5 t5 D5 =>
                        (wp S 61 0 [some (qs 7), some (qi x5), some (qi x4), none, none] [] t5 D5 (fun x6 t6 D6 =>
                        (chk (qR l3)
                        (if l3 = 5 then
                        (Q x6 t6 D6)
                        else
                        (wp S 93 0 [some (qi x6), some (qi x4), none, none, none, none] [] t6 D6 (fun x7 t7 D7 =>
                        (Q x7 t7 D7)))))))))))))
                      else
                      (chk ((t2.1 (t2.2.1 0 5)).1 = 3)
                        (chk ((t2.1 (t2.2.1 (t2.2.1 0 5) 0)).1 = 0)
                        (wp S 5 0 [some (qr (t2.2.1 (t2.2.1 0 5) 0)), some (qi l1), some (qi l2), some (qi l3)] [] t2 D2 (fun x8 t8 D8 =>
                        (Q x8 t8 D8))))))))))))))))) : wp S 68 0 [some (qs 0), some (qi l1), some (qi l2), some (qi l3), none, none] [] t D Q := vc_ok (cuts := []) 600 0 _ _ _ _ h
/-! 74 X8_as -/
set_option maxRecDepth 100000 in
theorem b74_0 {S : (Nat → Int32) × Nat} {t : qT} {D : qD} {Q : Int → qT → qD → Prop} {l1 l2 l3 : Int} (h :
wp S 86 0 [some (qs 0), some (qi l1), some (qi l2)] [] t D (fun x1 t1 D1 =>
  (chk (qR x1)
    (if x1 = 0 then
      (Q (-101) t1 D1)
      else
      (wp S 88 0 [some (qi l3), some (qi 5)] [] t1 D1 (fun x2 t2 D2 =>
          (chk (qR x2)
            (if x2 = 0 then
              (Q (-102) t2 D2)
              else
              (chk ((t2.1 (t2.2.1 0 5)).1 = 3)
                (wp S 89 0 [some (qi l1), some (qi l2)] [] t2 D2 (fun x3 t3 D3 =>
                    (chk ((t3.1 (t2.2.1 (t2.2.1 0 5) 1)).1 = 10)
                      (chk (0 ≤ x3 ∧ x3 < (t3.1 (t2.2.1 (t2.2.1 0 5) 1)).2)
                        (wp S 91 0 [some (qi (D3 (t2.2.1 (t2.2.1 0 5) 1) x3)), some (qi l3)] [] t3 D3 (fun x4 t4 D4 =>
                        (chk (qR x4)
                        (if x4 = 0 then
                        (Q (-1) t4 D4)
                        else
                        (Q l2 t4 D4)))))))))))))))))) : wp S 69 0 [some (qs 0), some (qi l1), some (qi l2), some (qi l3)] [] t D Q := vc_ok (cuts := []) 600 0 _ _ _ _ h
/-! 75 X8_frame -/
set_option maxRecDepth 100000 in
theorem b75_0 {S : (Nat → Int32) × Nat} {t : qT} {D : qD} {Q : Int → qT → qD → Prop} {l1 l2 : Int} (h :
chk ((t.1 (t.2.1 0 5)).1 = 3)
(wp S 88 0 [some (qi l1), some (qi (D (t.2.1 0 5) 7))] [] t D (fun x1 t1 D1 =>
    (chk (qR x1)
      (if x1 = 0 then
        (Q (-101) t1 D1)
        else
        (wp S 88 0 [some (qi l2), some (qi 12)] [] t1 D1 (fun x2 t2 D2 =>
            (chk (qR x2)
              (if x2 = 0 then
                (Q (-102) t2 D2)
                else
                (chk ((t2.1 (t2.2.1 0 5)).1 = 3)
                  (wp S 24 0 [some (qr (t2.2.1 0 5)), some (qi l1)] [] t2 D2 (fun x3 t3 D3 =>
                      (chk (qR l2)
                        (if l2 = 0 then
                        (chk ((t3.1 (t3.2.1 0 5)).1 = 3)
                        (chk ((t3.1 (t3.2.1 (t3.2.1 0 5) 3)).1 = 10)
                        (chk (0 ≤ x3 ∧ x3 < (t3.1 (t3.2.1 (t3.2.1 0 5) 3)).2)
                        (Q (D3 (t3.2.1 (t3.2.1 0 5) 3) x3) t3 D3))))
                        else
                        (chk (qR l2)
                        (if l2 = 1 then
                        (chk ((t3.1 (t3.2.1 0 5)).1 = 3)
                        (chk ((t3.1 (t3.2.1 (t3.2.1 0 5) 4)).1 = 10)
                        (chk (0 ≤ x3 ∧ x3 < (t3.1 (t3.2.1 (t3.2.1 0 5) 4)).2)
                        (Q (D3 (t3.2.1 (t3.2.1 0 5) 4) x3) t3 D3))))
                        else
                        (chk (qR l2)
                        (if l2 < 8 then
                        (chk ((t3.1 (t3.2.1 0 5)).1 = 3)
                        (chk ((t3.1 (t3.2.1 (t3.2.1 0 5) 5)).1 = 10)
                        (chk (0 ≤ (((x3 * 6) + l2) - 2) ∧ (((x3 * 6) + l2) - 2) < (t3.1 (t3.2.1 (t3.2.1 0 5) 5)).2)
                        (Q (D3 (t3.2.1 (t3.2.1 0 5) 5) (((x3 * 6) + l2) - 2)) t3 D3))))
                        else
                        (chk ((t3.1 (t3.2.1 0 5)).1 = 3)
                        (wp S 31 0 [some (qr (t3.2.1 0 5)), some (qi x3), some (qi ((l2 - 2) - 6)), none, none] [] t3 D3 (fun x4 t4 D4 =>
                        (Q x4 t4 D4)))))))))))))))))))))) : wp S 70 0 [some (qs 0), some (qi l1), some (qi l2), none] [] t D Q := vc_ok (cuts := []) 600 0 _ _ _ _ h
/-! 76 X8_register -/
set_option maxRecDepth 100000 in
theorem b76_0 {S : (Nat → Int32) × Nat} {t : qT} {D : qD} {Q : Int → qT → qD → Prop} {l1 : Int} (h :
wp S 88 0 [some (qi l1), some (qi 4)] [] t D (fun x1 t1 D1 =>
  (chk (qR x1)
    (if x1 = 0 then
      (Q (-101) t1 D1)
      else
      (chk ((t1.1 (t1.2.1 0 5)).1 = 3)
        (chk ((t1.1 (t1.2.1 (t1.2.1 0 5) 2)).1 = 10)
          (chk (0 ≤ l1 ∧ l1 < (t1.1 (t1.2.1 (t1.2.1 0 5) 2)).2)
            (Q (D1 (t1.2.1 (t1.2.1 0 5) 2) l1) t1 D1)))))))) : wp S 71 0 [some (qs 0), some (qi l1)] [] t D Q := vc_ok (cuts := []) 600 0 _ _ _ _ h
/-! 77 X8_call -/
set_option maxRecDepth 100000 in
theorem b77_0 {S : (Nat → Int32) × Nat} {t : qT} {D : qD} {Q : Int → qT → qD → Prop} {l1 : Int} (h :
wp S 85 0 [some (qs 0), some (qi l1)] [] t D (fun x1 t1 D1 =>
  (chk (qR x1)
    (if x1 = 0 then
      (Q (-101) t1 D1)
      else
      (chk ((t1.1 (t1.2.1 0 5)).1 = 3)
        (chk (qR (D1 (t1.2.1 0 5) 7))
          (if (D1 (t1.2.1 0 5) 7) < 8 then
            (wp S 87 0 [some (qs 0)] [] t1 D1 (fun _ t2 D2 =>
                (chk ((t2.1 (t2.2.1 0 5)).1 = 3)
                  (wp S 26 0 [some (qr (t2.2.1 0 5)), some (qi l1), none] [] t2 D2 (fun _ t3 D3 =>
                      (chk ((t3.1 (t3.2.1 0 5)).1 = 3)
                        (Q (D3 (t3.2.1 0 5) 7) t3 D3)))))))
            else
            (Q (-104) t1 D1)))))))) : wp S 72 0 [some (qs 0), some (qi l1)] [] t D Q := vc_ok (cuts := []) 600 0 _ _ _ _ h
/-! 78 X8_go -/
set_option maxRecDepth 100000 in
theorem b78_0 {S : (Nat → Int32) × Nat} {t : qT} {D : qD} {Q : Int → qT → qD → Prop} {l1 : Int} (h :
chk (qR l1)
(if l1 < 1 then
  (Q (-102) t D)
  else
  (chk (qR l1)
    (if l1 < 10 then
      (chk ((t.1 (t.2.1 0 5)).1 = 3)
        (chk (qR (D (t.2.1 0 5) 7))
          (if (D (t.2.1 0 5) 7) < 1 then
            (Q (-103) t D)
            else
            (chk ((t.1 (t.2.1 0 5)).1 = 3)
              (wp S 25 0 [some (qr (t.2.1 0 5))] [] t D (fun x1 t1 D1 =>
                  (chk (qR (x1 + l1))
                    (if (x1 + l1) < 10 then
                      (wp S 87 0 [some (qs 0)] [] t1 D1 (fun _ t2 D2 =>
                        (wp S 73 48 [some (qs 0), some (qi l1), some (qi 0)] [] t2 D2 Q)))
                      else
                      (Q (-103) t1 D1)))))))))
      else
      (Q (-102) t D))))) : wp S 73 0 [some (qs 0), some (qi l1), none] [] t D Q := vc_ok (cuts := [48]) 600 0 _ _ _ _ h
set_option maxRecDepth 100000 in
theorem b78_48 {S : (Nat → Int32) × Nat} {t : qT} {D : qD} {Q : Int → qT → qD → Prop} {l1 l2 : Int} (h :
chk (qR l2)
(chk (qR l1)
  (if l2 < l1 then
    (chk ((t.1 (t.2.1 0 5)).1 = 3)
      (wp S 27 0 [some (qr (t.2.1 0 5))] [] t D (fun _ t1 D1 =>
          (wp S 73 48 [some (qs 0), some (qi l1), some (qi (l2 + 1))] [] t1 D1 Q))))
    else
    (chk ((t.1 (t.2.1 0 5)).1 = 3)
      (wp S 25 0 [some (qr (t.2.1 0 5))] [] t D (fun x2 t2 D2 =>
          (Q x2 t2 D2))))))) : wp S 73 48 [some (qs 0), some (qi l1), some (qi l2)] [] t D Q := vc_ok (cuts := [48]) 600 48 _ _ _ _ h
/-! 79 X8_set -/
set_option maxRecDepth 100000 in
theorem b79_0 {S : (Nat → Int32) × Nat} {t : qT} {D : qD} {Q : Int → qT → qD → Prop} {l1 l2 : Int} (h :
wp S 88 0 [some (qi l1), some (qi 4)] [] t D (fun x1 t1 D1 =>
  (chk (qR x1)
    (if x1 = 0 then
      (Q (-101) t1 D1)
      else
      (wp S 88 0 [some (qi l2), some (qi 1000)] [] t1 D1 (fun x2 t2 D2 =>
          (chk (qR x2)
            (if x2 = 0 then
              (Q (-102) t2 D2)
              else
              (wp S 84 0 [some (qs 0)] [] t2 D2 (fun x3 t3 D3 =>
                  (chk (qR x3)
                    (if x3 = 0 then
                      (Q (-103) t3 D3)
                      else
                      (wp S 87 0 [some (qs 0)] [] t3 D3 (fun _ t4 D4 =>
                        (chk ((t4.1 (t4.2.1 0 5)).1 = 3)
                        (chk ((t4.1 (t4.2.1 (t4.2.1 0 5) 2)).1 = 10)
                        (chk (0 ≤ l1 ∧ l1 < (t4.1 (t4.2.1 (t4.2.1 0 5) 2)).2)
                        (chk ((t4.1 (t4.2.1 0 5)).1 = 3)
                        (chk ((t4.1 (t4.2.1 (t4.2.1 0 5) 2)).1 = 10)
                        (chk (0 ≤ l1 ∧ l1 < (t4.1 (t4.2.1 (t4.2.1 0 5) 2)).2)
                        (Q (D4 (t4.2.1 (t4.2.1 0 5) 2) l1) t4 (up D4 (t4.2.1 (t4.2.1 0 5) 2) l1 l2)))))))))))))))))))))) : wp S 74 0 [some (qs 0), some (qi l1), some (qi l2), none] [] t D Q := vc_ok (cuts := []) 600 0 _ _ _ _ h
/-! 80 X8_back -/
set_option maxRecDepth 100000 in
theorem b80_0 {S : (Nat → Int32) × Nat} {t : qT} {D : qD} {Q : Int → qT → qD → Prop} (h :
chk ((t.1 (t.2.1 0 5)).1 = 3)
(chk (qR (D (t.2.1 0 5) 7))
  (if (D (t.2.1 0 5) 7) < 1 then
    (Q (-103) t D)
    else
    (wp S 87 0 [some (qs 0)] [] t D (fun _ t1 D1 =>
        (chk ((t1.1 (t1.2.1 0 5)).1 = 3)
          (wp S 29 0 [some (qr (t1.2.1 0 5)), none] [] t1 D1 (fun _ t2 D2 =>
              (chk ((t2.1 (t2.2.1 0 5)).1 = 3)
                (Q (D2 (t2.2.1 0 5) 7) t2 D2)))))))))) : wp S 75 0 [some (qs 0)] [] t D Q := vc_ok (cuts := []) 600 0 _ _ _ _ h
/-! 81 X8_raise -/
set_option maxRecDepth 100000 in
theorem b81_0 {S : (Nat → Int32) × Nat} {t : qT} {D : qD} {Q : Int → qT → qD → Prop} {l1 : Int} (h :
wp S 88 0 [some (qi l1), some (qi 5)] [] t D (fun x1 t1 D1 =>
  (chk (qR x1)
    (if x1 = 0 then
      (Q (-102) t1 D1)
      else
      (wp S 84 0 [some (qs 0)] [] t1 D1 (fun x2 t2 D2 =>
          (chk (qR x2)
            (if x2 = 0 then
              (Q (-103) t2 D2)
              else
              (chk ((t2.1 (t2.2.1 0 5)).1 = 3)
                (wp S 32 0 [some (qr (t2.2.1 0 5)), some (qi l1), none, none, none] [] t2 D2 (fun x3 t3 D3 =>
                    (chk (qR x3)
                      (if x3 = (-1) then
                        (Q (-1) t3 D3)
                        else
                        (wp S 87 0 [some (qs 0)] [] t3 D3 (fun _ t4 D4 =>
                        (chk ((t4.1 (t4.2.1 0 5)).1 = 3)
                        (wp S 35 0 [some (qr (t4.2.1 0 5)), some (qi x3), some (qi l1), none, none] [] t4 D4 (fun _ t5 D5 =>
                        (chk (0 ≤ x3 ∧ x3 < 2147483648)
                        (Q (x3 / 3) t5 D5)))))))))))))))))))) : wp S 76 0 [some (qs 0), some (qi l1), none] [] t D Q := vc_ok (cuts := []) 600 0 _ _ _ _ h
/-! 82 X8_change -/
set_option maxRecDepth 100000 in
theorem b82_0 {S : (Nat → Int32) × Nat} {t : qT} {D : qD} {Q : Int → qT → qD → Prop} {l1 l2 l3 : Int} (h :
wp S 86 0 [some (qs 0), some (qi l1), some (qi l2)] [] t D (fun x1 t1 D1 =>
  (chk (qR x1)
    (if x1 = 0 then
      (Q (-101) t1 D1)
      else
      (wp S 88 0 [some (qi l3), some (qi 5)] [] t1 D1 (fun x2 t2 D2 =>
          (chk (qR x2)
            (if x2 = 0 then
              (Q (-102) t2 D2)
              else
              (wp S 87 0 [some (qs 0)] [] t2 D2 (fun _ t3 D3 =>
                  (chk ((t3.1 (t3.2.1 0 5)).1 = 3)
                    (wp S 89 0 [some (qi l1), some (qi l2)] [] t3 D3 (fun x4 t4 D4 =>
                        (chk ((t4.1 (t3.2.1 (t3.2.1 0 5) 1)).1 = 10)
                        (chk (0 ≤ x4 ∧ x4 < (t4.1 (t3.2.1 (t3.2.1 0 5) 1)).2)
                        (chk ((t4.1 (t4.2.1 0 5)).1 = 3)
                        (wp S 89 0 [some (qi l1), some (qi l2)] [] t4 D4 (fun x5 t5 D5 =>
                        (chk ((t5.1 (t4.2.1 (t4.2.1 0 5) 1)).1 = 10)
                        (chk (0 ≤ x5 ∧ x5 < (t5.1 (t4.2.1 (t4.2.1 0 5) 1)).2)
                        (Q (D4 (t3.2.1 (t3.2.1 0 5) 1) x4) t5 (up D5 (t4.2.1 (t4.2.1 0 5) 1) x5 l3)))))))))))))))))))))) : wp S 77 0 [some (qs 0), some (qi l1), some (qi l2), some (qi l3), none] [] t D Q := vc_ok (cuts := []) 600 0 _ _ _ _ h
/-! 83 X8_undo -/
/-! 84 X8_search -/
set_option maxRecDepth 100000 in
theorem b84_0 {S : (Nat → Int32) × Nat} {t : qT} {D : qD} {Q : Int → qT → qD → Prop} {l1 l2 : Int} (h :
wp S 88 0 [some (qi l1), some (qi 5)] [] t D (fun x1 t1 D1 =>
  (chk (qR x1)
    (if x1 = 0 then
      (Q (-102) t1 D1)
      else
      (wp S 88 0 [some (qi l2), some (qi 3)] [] t1 D1 (fun x2 t2 D2 =>
          (chk (qR x2)
            (if x2 = 0 then
              (Q (-102) t2 D2)
              else
              (wp S 84 0 [some (qs 0)] [] t2 D2 (fun x3 t3 D3 =>
                  (chk (qR x3)
                    (if x3 = 0 then
                      (Q (-103) t3 D3)
                      else
                      (chk ((t3.1 (t3.2.1 0 5)).1 = 3)
                        (wp S 32 0 [some (qr (t3.2.1 0 5)), some (qi l1), none, none, none] [] t3 D3 (fun x4 t4 D4 =>
                        (chk (qR x4)
                        (if x4 = (-1) then
                        (Q (-1) t4 D4)
                        else
                        (chk (qR l2)
                        (if l2 = 2 then
                        (chk ((t4.1 (t4.2.1 0 5)).1 = 3)
                        (wp S 34 0 [some (qr (t4.2.1 0 5)), some (qi x4), some (qi l1), none, none, none] [] t4 D4 (fun x5 t5 D5 =>
                        (Q x5 t5 D5))))
                        else
                        (chk (qR l2)
                        (if l2 = 0 then
                        (chk (0 ≤ x4 ∧ x4 < 2147483648)
                        (Q (x4 / 3) t4 D4))
                        else
                        (chk (0 ≤ x4 ∧ x4 < 2147483648)
                        (Q (x4 % 3) t4 D4))))))))))))))))))))))) : wp S 78 0 [some (qs 0), some (qi l1), some (qi l2), none] [] t D Q := vc_ok (cuts := []) 600 0 _ _ _ _ h
/-! 85 X8_loose -/
set_option maxRecDepth 100000 in
theorem b85_0 {S : (Nat → Int32) × Nat} {t : qT} {D : qD} {Q : Int → qT → qD → Prop} (h :
wp S 84 0 [some (qs 0)] [] t D (fun x1 t1 D1 =>
  (chk (qR x1)
    (if x1 = 0 then
      (Q (-103) t1 D1)
      else
      (wp S 79 14 [some (qs 0), some (qi 0), some (qi 0)] [] t1 D1 Q))))) : wp S 79 0 [some (qs 0), none, none] [] t D Q := vc_ok (cuts := [14]) 600 0 _ _ _ _ h
set_option maxRecDepth 100000 in
theorem b85_14 {S : (Nat → Int32) × Nat} {t : qT} {D : qD} {Q : Int → qT → qD → Prop} {l1 l2 : Int} (h :
chk (qR l2)
(if l2 < 5 then
  (chk ((t.1 (t.2.1 0 5)).1 = 3)
    (wp S 32 0 [some (qr (t.2.1 0 5)), some (qi l2), none, none, none] [] t D (fun x1 t1 D1 =>
        (chk (qR x1)
          (if x1 = (-1) then
            (wp S 79 14 [some (qs 0), some (qi (qor l1 (qshl 1 l2))), some (qi (l2 + 1))] [] t1 D1 Q)
            else
            (wp S 79 14 [some (qs 0), some (qi l1), some (qi (l2 + 1))] [] t1 D1 Q))))))
  else
  (Q l1 t D))) : wp S 79 14 [some (qs 0), some (qi l1), some (qi l2)] [] t D Q := vc_ok (cuts := [14]) 600 14 _ _ _ _ h
/-! 86 X8_finished -/
set_option maxRecDepth 100000 in
theorem b86_0 {S : (Nat → Int32) × Nat} {t : qT} {D : qD} {Q : Int → qT → qD → Prop} {l1 : Int} (h :
chk (qR l1)
(if l1 = (-1) then
  (chk ((t.1 (t.2.1 0 5)).1 = 3)
    (Q (D (t.2.1 0 5) 8) t D))
  else
  (chk ((t.1 (t.2.1 0 5)).1 = 3)
    (wp S 88 0 [some (qi l1), some (qi (D (t.2.1 0 5) 8))] [] t D (fun x1 t1 D1 =>
        (chk (qR x1)
          (if x1 = 0 then
            (Q (-101) t1 D1)
            else
            (chk ((t1.1 (t1.2.1 0 5)).1 = 3)
              (chk ((t1.1 (t1.2.1 (t1.2.1 0 5) 6)).1 = 10)
                (chk (0 ≤ l1 ∧ l1 < (t1.1 (t1.2.1 (t1.2.1 0 5) 6)).2)
                  (Q (D1 (t1.2.1 (t1.2.1 0 5) 6) l1) t1 D1))))))))))) : wp S 80 0 [some (qs 0), some (qi l1)] [] t D Q := vc_ok (cuts := []) 600 0 _ _ _ _ h
/-! 87 X8_same -/
set_option maxRecDepth 100000 in
theorem b87_0 {S : (Nat → Int32) × Nat} {t : qT} {D : qD} {Q : Int → qT → qD → Prop} {l1 l2 : Int} (h :
wp S 85 0 [some (qs 0), some (qi l1)] [] t D (fun x1 t1 D1 =>
  (chk (qR x1)
    (if x1 = 0 then
      (Q (-101) t1 D1)
      else
      (wp S 85 0 [some (qs 0), some (qi l2)] [] t1 D1 (fun x2 t2 D2 =>
          (chk (qR x2)
            (if x2 = 0 then
              (Q (-101) t2 D2)
              else
              (wp S 81 21 [some (qs 0), some (qi l1), some (qi l2), some (qi 0), none] [] t2 D2 Q))))))))) : wp S 81 0 [some (qs 0), some (qi l1), some (qi l2), none, none] [] t D Q := vc_ok (cuts := [21, 30]) 600 0 _ _ _ _ h
set_option maxRecDepth 100000 in
theorem b87_21 {S : (Nat → Int32) × Nat} {t : qT} {D : qD} {Q : Int → qT → qD → Prop} {l1 l2 l3 : Int} {o4 : Option qV} (h :
chk (qR l3)
(if l3 < 10 then
  (wp S 81 30 [some (qs 0), some (qi l1), some (qi l2), some (qi l3), some (qi 0)] [] t D Q)
  else
  (Q 1 t D))) : wp S 81 21 [some (qs 0), some (qi l1), some (qi l2), some (qi l3), o4] [] t D Q := vc_ok (cuts := [21, 30]) 600 21 _ _ _ _ h
set_option maxRecDepth 100000 in
theorem b87_30 {S : (Nat → Int32) × Nat} {t : qT} {D : qD} {Q : Int → qT → qD → Prop} {l1 l2 l3 l4 : Int} (h :
chk (qR l4)
(if l4 < 4 then
  (chk ((t.1 (t.2.1 0 5)).1 = 3)
    (chk ((t.1 (t.2.1 (t.2.1 0 5) 0)).1 = 0)
      (wp S 1 0 [some (qr (t.2.1 (t.2.1 0 5) 0)), some (qi l1), some (qi l3), some (qi l4)] [] t D (fun x1 t1 D1 =>
          (chk ((t1.1 (t1.2.1 0 5)).1 = 3)
            (chk ((t1.1 (t1.2.1 (t1.2.1 0 5) 0)).1 = 0)
              (wp S 1 0 [some (qr (t1.2.1 (t1.2.1 0 5) 0)), some (qi l2), some (qi l3), some (qi l4)] [] t1 D1 (fun x2 t2 D2 =>
                  (chk (qR x1)
                    (chk (qR x2)
                      (if x1 = x2 then
                        (wp S 81 30 [some (qs 0), some (qi l1), some (qi l2), some (qi l3), some (qi (l4 + 1))] [] t2 D2 Q)
                        else
                        (Q 0 t2 D2))))))))))))
  else
  (wp S 81 21 [some (qs 0), some (qi l1), some (qi l2), some (qi (l3 + 1)), some (qi l4)] [] t D Q))) : wp S 81 30 [some (qs 0), some (qi l1), some (qi l2), some (qi l3), some (qi l4)] [] t D Q := vc_ok (cuts := [21, 30]) 600 30 _ _ _ _ h
/-! 88 X8_see -/
/-! 89 X8_forget -/
/-! 90 X8_drawn -/
set_option maxRecDepth 100000 in
theorem b90_0 {S : (Nat → Int32) × Nat} {t : qT} {D : qD} {Q : Int → qT → qD → Prop} {l1 l2 l3 : Int} (h :
chk (qR l1)
(if l1 < 1 then
  (Q (-102) t D)
  else
  (chk (qR l1)
    (if 99 < l1 then
      (Q (-102) t D)
      else
      (chk (qR l2)
        (if l2 < 0 then
          (Q (-102) t D)
          else
          (wp S 88 0 [some (qi l3), some (qi 3)] [] t D (fun x1 t1 D1 =>
              (chk (qR x1)
                (if x1 = 0 then
                  (Q (-102) t1 D1)
                  else
                  (wp S 84 0 [some (qs 0)] [] t1 D1 (fun x2 t2 D2 =>
                      (chk (qR x2)
                        (if x2 = 0 then
                        (Q (-103) t2 D2)
                        else
                        (chk (((nwT t2.1 t2.2.2.1 (3, 0)) t2.2.2.1).1 ≠ 8)
                        (wp S 23 0 [some (qr t2.2.2.1), some (qr ((nwP t2.2.1 t2.2.2.1) 0 5))] [] ((nwT t2.1 t2.2.2.1 (3, 0)), (nwP t2.2.1 t2.2.2.1), ((t2.2.2.1 + 1), (t2.2.2.2 + 9))) (upr D2 t2.2.2.1 (fun _ => 0)) (fun _ t3 D3 =>
                        (chk (((nwT t3.1 t3.2.2.1 (1, 0)) t3.2.2.1).1 ≠ 8)
                        (wp S 15 0 [some (qr t3.2.2.1), some (qi l2)] [] ((nwT t3.1 t3.2.2.1 (1, 0)), (nwP t3.2.1 t3.2.2.1), ((t3.2.2.1 + 1), (t3.2.2.2 + 1))) (upr D3 t3.2.2.1 (fun _ => 0)) (fun _ t4 D4 =>
                        (wp S 82 65 [some (qs 0), some (qi l1), some (qi l2), some (qi l3), some (qr t2.2.2.1), some (qr t3.2.2.1), some (qi 0), some (qi 0)] [] t4 D4 Q))))))))))))))))))))) : wp S 82 0 [some (qs 0), some (qi l1), some (qi l2), some (qi l3), none, none, none, none] [] t D Q := vc_ok (cuts := [65]) 600 0 _ _ _ _ h
set_option maxRecDepth 100000 in
theorem b90_65 {S : (Nat → Int32) × Nat} {t : qT} {D : qD} {Q : Int → qT → qD → Prop} {l1 l2 l3 l6 l7 : Int} {l4 l5 : Nat} (h :
chk (qR l7)
(chk (qR l1)
  (if l7 < l1 then
    (chk ((t.1 l5).1 = 1)
      (wp S 17 0 [some (qr l5), some (qr l4), none] [] t D (fun x1 t1 D1 =>
          (chk (qR x1)
            (if x1 = 0 then
              (wp S 82 65 [some (qs 0), some (qi l1), some (qi l2), some (qi l3), some (qr l4), some (qr l5), some (qi l6), some (qi (l7 + 1))] [] t1 D1 Q)
              else
              (wp S 82 65 [some (qs 0), some (qi l1), some (qi l2), some (qi l3), some (qr l4), some (qr l5), some (qi (l6 + 1)), some (qi (l7 + 1))] [] t1 D1 Q))))))
    else
    (chk (qR l3)
      (if l3 = 0 then
        (Q l6 t D)
        else
        (chk (qR l3)
          (if l3 = 1 then
            (chk ((t.1 l4).1 = 3)
              (Q (D l4 7) t D))
            else
            (chk ((t.1 l5).1 = 1)
              (Q (D l5 0) t D))))))))) : wp S 82 65 [some (qs 0), some (qi l1), some (qi l2), some (qi l3), some (qr l4), some (qr l5), some (qi l6), some (qi l7)] [] t D Q := vc_ok (cuts := [65]) 600 65 _ _ _ _ h
/-! 91 X8_image -/
/-! 92 X8_restore -/
/-! 93 X8_count -/
set_option maxRecDepth 100000 in
theorem b93_0 {S : (Nat → Int32) × Nat} {t : qT} {D : qD} {Q : Int → qT → qD → Prop} {l1 : Int} (h :
wp S 88 0 [some (qi l1), some (qi 8)] [] t D (fun x1 t1 D1 =>
  (chk (qR x1)
    (if x1 = 0 then
      (Q (-102) t1 D1)
      else
      (chk (qR l1)
        (if l1 = 0 then
          (chk ((t1.1 (t1.2.1 0 5)).1 = 3)
            (chk ((t1.1 (t1.2.1 (t1.2.1 0 5) 0)).1 = 0)
              (Q (D1 (t1.2.1 (t1.2.1 0 5) 0) 0) t1 D1)))
          else
          (if l1 = 1 then
            (chk ((t1.1 (t1.2.1 0 5)).1 = 3)
              (chk ((t1.1 (t1.2.1 (t1.2.1 0 5) 0)).1 = 0)
                (wp S 12 0 [some (qr (t1.2.1 (t1.2.1 0 5) 0)), none, none] [] t1 D1 (fun x2 t2 D2 =>
                    (Q x2 t2 D2)))))
            else
            (if l1 = 2 then
              (chk ((t1.1 (t1.2.1 0 5)).1 = 3)
                (Q (D1 (t1.2.1 0 5) 7) t1 D1))
              else
              (if l1 = 3 then
                (Q (D1 3 2) t1 D1)
                else
                (if l1 = 4 then
                  (chk ((t1.1 (t1.2.1 0 5)).1 = 3)
                    (chk ((t1.1 (t1.2.1 (t1.2.1 0 5) 0)).1 = 0)
                      (wp S 13 0 [some (qr (t1.2.1 (t1.2.1 0 5) 0)), none, none, none] [] t1 D1 (fun x3 t3 D3 =>
                        (Q x3 t3 D3)))))
                  else
                  (if l1 = 5 then
                    (Q (D1 7 3) t1 D1)
                    else
                    (if l1 = 6 then
                      (Q (D1 1 1) t1 D1)
                      else
                      (Q (D1 0 7) t1 D1))))))))))))) : wp S 83 0 [some (qs 0), some (qi l1)] [] t D Q := vc_ok (cuts := []) 600 0 _ _ _ _ h
/-! 94 X8_digest -/
/-! 95 X8_digestFunction -/
/-! 96 X8_digestThrowing -/
/-! 97 X8_folded -/
/-! 98 X8_hasText -/
set_option maxRecDepth 100000 in
theorem b98_0 {S : (Nat → Int32) × Nat} {t : qT} {D : qD} {Q : Int → qT → qD → Prop} (h :
chk ((t.1 (t.2.1 0 5)).1 = 3)
(chk ((t.1 (t.2.1 (t.2.1 0 5) 0)).1 = 0)
  (chk (qR (D (t.2.1 (t.2.1 0 5) 0) 0))
    (if 0 < (D (t.2.1 (t.2.1 0 5) 0) 0) then
      (Q 1 t D)
      else
      (Q 0 t D))))) : wp S 84 0 [some (qs 0)] [] t D Q := vc_ok (cuts := []) 600 0 _ _ _ _ h
/-! 99 X8_isFunction -/
set_option maxRecDepth 100000 in
theorem b99_0 {S : (Nat → Int32) × Nat} {t : qT} {D : qD} {Q : Int → qT → qD → Prop} {l1 : Int} (h :
chk ((t.1 (t.2.1 0 5)).1 = 3)
(chk ((t.1 (t.2.1 (t.2.1 0 5) 0)).1 = 0)
  (wp S 88 0 [some (qi l1), some (qi (D (t.2.1 (t.2.1 0 5) 0) 0))] [] t D (fun x1 t1 D1 =>
      (chk (x1 = 0 ∨ x1 = 1)
        (Q x1 t1 D1)))))) : wp S 85 0 [some (qs 0), some (qi l1)] [] t D Q := vc_ok (cuts := []) 600 0 _ _ _ _ h
/-! 100 X8_isPad -/
set_option maxRecDepth 100000 in
theorem b100_0 {S : (Nat → Int32) × Nat} {t : qT} {D : qD} {Q : Int → qT → qD → Prop} {l1 l2 : Int} (h :
wp S 85 0 [some (qs 0), some (qi l1)] [] t D (fun x1 t1 D1 =>
  (chk (qR x1)
    (if x1 = 0 then
      (Q 0 t1 D1)
      else
      (chk ((t1.1 (t1.2.1 0 5)).1 = 3)
        (chk ((t1.1 (t1.2.1 (t1.2.1 0 5) 0)).1 = 0)
          (wp S 3 0 [some (qr (t1.2.1 (t1.2.1 0 5) 0)), some (qi l1)] [] t1 D1 (fun x2 t2 D2 =>
              (wp S 88 0 [some (qi l2), some (qi x2)] [] t2 D2 (fun x3 t3 D3 =>
                  (chk (qR x3)
                    (if x3 = 0 then
                      (Q 0 t3 D3)
                      else
                      (Q 1 t3 D3))))))))))))) : wp S 86 0 [some (qs 0), some (qi l1), some (qi l2)] [] t D Q := vc_ok (cuts := []) 600 0 _ _ _ _ h
/-! 101 X8_beginDoing -/
set_option maxRecDepth 100000 in
theorem b101_0 {S : (Nat → Int32) × Nat} {t : qT} {D : qD} {Q : Int → qT → qD → Prop} (h :
wp S 21 0 [some (qs 3), some (qr (t.2.1 0 5))] [] t D (fun _ t1 D1 =>
  (chk (((nwT t1.1 t1.2.2.1 (3, 0)) t1.2.2.1).1 ≠ 8)
    (wp S 23 0 [some (qr t1.2.2.1), some (qr ((nwP t1.2.1 t1.2.2.1) 0 5))] [] ((nwT t1.1 t1.2.2.1 (3, 0)), (nwP t1.2.1 t1.2.2.1), ((t1.2.2.1 + 1), (t1.2.2.2 + 9))) (upr D1 t1.2.2.1 (fun _ => 0)) (fun _ t2 D2 =>
        (Q 0 (t2.1, (upP t2.2.1 0 5 t1.2.2.1), t2.2.2) D2)))))) : wp S 87 0 [some (qs 0)] [] t D Q := vc_ok (cuts := []) 600 0 _ _ _ _ h
/-! 102 X8_isBelow -/
set_option maxRecDepth 100000 in
theorem b102_0 {S : (Nat → Int32) × Nat} {t : qT} {D : qD} {Q : Int → qT → qD → Prop} {l0 l1 : Int} (h :
chk (qR l0)
(if l0 < 0 then
  (Q 0 t D)
  else
  (chk (qR l0)
    (chk (qR l1)
      (if l0 < l1 then
        (Q 1 t D)
        else
        (Q 0 t D)))))) : wp S 88 0 [some (qi l0), some (qi l1)] [] t D Q := vc_ok (cuts := []) 600 0 _ _ _ _ h
/-! 103 X8_slot -/
set_option maxRecDepth 100000 in
theorem b103_0 {S : (Nat → Int32) × Nat} {t : qT} {D : qD} {Q : Int → qT → qD → Prop} {l0 l1 : Int} (h :
Q ((l0 * 3) + l1) t D) : wp S 89 0 [some (qi l0), some (qi l1)] [] t D Q := vc_ok (cuts := []) 600 0 _ _ _ _ h
/-! 104 X8_kindOfLetter -/
set_option maxRecDepth 100000 in
theorem b104_0 {S : (Nat → Int32) × Nat} {t : qT} {D : qD} {Q : Int → qT → qD → Prop} {l0 : Int} (h :
chk (qR l0)
(if l0 = 97 then
  (Q 1 t D)
  else
  (if l0 = 99 then
    (Q 0 t D)
    else
    (if l0 = 102 then
      (Q 2 t D)
      else
      (if l0 = 103 then
        (Q 4 t D)
        else
        (if l0 = 117 then
          (Q 3 t D)
          else
          (Q (-1) t D))))))) : wp S 90 0 [some (qi l0)] [] t D Q := vc_ok (cuts := []) 600 0 _ _ _ _ h
/-! 105 X8_isOfKind -/
set_option maxRecDepth 100000 in
theorem b105_0 {S : (Nat → Int32) × Nat} {t : qT} {D : qD} {Q : Int → qT → qD → Prop} {l0 l1 : Int} (h :
chk (qR l1)
(if l1 = 0 then
  (Q 1 t D)
  else
  (chk (qR l0)
    (chk (qR l1)
      (if l0 = l1 then
        (Q 1 t D)
        else
        (chk (qR l0)
          (if l0 = 4 then
            (chk (qR l1)
              (if l1 = 2 then
                (Q 1 t D)
                else
                (Q 0 t D)))
            else
            (Q 0 t D)))))))) : wp S 91 0 [some (qi l0), some (qi l1)] [] t D Q := vc_ok (cuts := []) 600 0 _ _ _ _ h
/-! 106 X8_deedOf -/
set_option maxRecDepth 100000 in
theorem b106_0 {S : (Nat → Int32) × Nat} {t : qT} {D : qD} {Q : Int → qT → qD → Prop} {l0 l1 l2 : Int} (h :
chk (qR l0)
(if l0 = 0 then
  (chk (qR l2)
    (chk (qR l1)
      (if l2 = l1 then
        (Q 1 t D)
        else
        (Q 0 t D))))
  else
  (if l0 = 1 then
    (Q 1 t D)
    else
    (if l0 = 2 then
      (Q 2 t D)
      else
      (if l0 = 3 then
        (chk (qR l2)
          (chk (qR l1)
            (if l2 < l1 then
              (Q 0 t D)
              else
              (Q 1 t D))))
        else
        (chk (qR l2)
          (chk (qR l1)
            (if l2 = l1 then
              (Q 1 t D)
              else
              (Q 2 t D))))))))) : wp S 92 0 [some (qi l0), some (qi l1), some (qi l2)] [] t D Q := vc_ok (cuts := []) 600 0 _ _ _ _ h
/-! 107 X8_bestToThrow -/
set_option maxRecDepth 100000 in
theorem b107_0 {S : (Nat → Int32) × Nat} {t : qT} {D : qD} {Q : Int → qT → qD → Prop} {l0 l1 : Int} (h :
wp S 93 8 [some (qi l0), some (qi l1), some (qi (-1)), some (qi 6), some (qi 0), none] [] t D Q) : wp S 93 0 [some (qi l0), some (qi l1), none, none, none, none] [] t D Q := vc_ok (cuts := [8]) 600 0 _ _ _ _ h
set_option maxRecDepth 100000 in
theorem b107_8 {S : (Nat → Int32) × Nat} {t : qT} {D : qD} {Q : Int → qT → qD → Prop} {l0 l1 l2 l3 l4 : Int} {o5 : Option qV} (h :
chk (qR l4)
(if l4 < 5 then
  (chk (qR l0)
    (if l0 = 0 then
      (Q l2 t D)
      else
      (wp S 94 0 [some (qi l0), some (qi l1), some (qi l4), none, none, none, none] [] t D (fun x1 t1 D1 =>
          (chk (qR x1)
            (chk (qR l3)
              (if x1 < l3 then
                (wp S 93 8 [some (qi l0), some (qi l1), some (qi l4), some (qi x1), some (qi (l4 + 1)), some (qi x1)] [] t1 D1 Q)
                else
                (wp S 93 8 [some (qi l0), some (qi l1), some (qi l2), some (qi l3), some (qi (l4 + 1)), some (qi x1)] [] t1 D1 Q))))))))
  else
  (Q l2 t D))) : wp S 93 8 [some (qi l0), some (qi l1), some (qi l2), some (qi l3), some (qi l4), o5] [] t D Q := vc_ok (cuts := [8]) 600 8 _ _ _ _ h
/-! 108 X8_leftAtWorst -/
set_option maxRecDepth 100000 in
theorem b108_0 {S : (Nat → Int32) × Nat} {t : qT} {D : qD} {Q : Int → qT → qD → Prop} {l0 l1 l2 : Int} (h :
wp S 94 5 [some (qi l0), some (qi l1), some (qi l2), some (qi 0), some (qi 0), none, none] [] t D Q) : wp S 94 0 [some (qi l0), some (qi l1), some (qi l2), none, none, none, none] [] t D Q := vc_ok (cuts := [5, 17]) 600 0 _ _ _ _ h
set_option maxRecDepth 100000 in
theorem b108_5 {S : (Nat → Int32) × Nat} {t : qT} {D : qD} {Q : Int → qT → qD → Prop} {l0 l1 l2 l3 l4 : Int} {o5 o6 : Option qV} (h :
chk (qR l4)
(if l4 < 3 then
  (wp S 94 17 [some (qi l0), some (qi l1), some (qi l2), some (qi l3), some (qi l4), some (qi 0), some (qi 0)] [] t D Q)
  else
  (Q l3 t D))) : wp S 94 5 [some (qi l0), some (qi l1), some (qi l2), some (qi l3), some (qi l4), o5, o6] [] t D Q := vc_ok (cuts := [5, 17]) 600 5 _ _ _ _ h
set_option maxRecDepth 100000 in
theorem b108_17 {S : (Nat → Int32) × Nat} {t : qT} {D : qD} {Q : Int → qT → qD → Prop} {l0 l1 l2 l3 l4 l5 l6 : Int} (h :
chk (qR l6)
(if l6 < 5 then
  (chk (qR (qand (qshr l0 l6) 1))
    (if (qand (qshr l0 l6) 1) = 1 then
      (wp S 92 0 [some (qi l6), some (qi l1), some (qi l2)] [] t D (fun x1 t1 D1 =>
          (chk (qR x1)
            (chk (qR l4)
              (if x1 = l4 then
                (wp S 94 17 [some (qi l0), some (qi l1), some (qi l2), some (qi l3), some (qi l4), some (qi (l5 + 1)), some (qi (l6 + 1))] [] t1 D1 Q)
                else
                (wp S 94 17 [some (qi l0), some (qi l1), some (qi l2), some (qi l3), some (qi l4), some (qi l5), some (qi (l6 + 1))] [] t1 D1 Q))))))
      else
      (wp S 94 17 [some (qi l0), some (qi l1), some (qi l2), some (qi l3), some (qi l4), some (qi l5), some (qi (l6 + 1))] [] t D Q)))
  else
  (chk (qR l3)
    (chk (qR l5)
      (wp S 94 5 [some (qi l0), some (qi l1), some (qi l2), some (qi (qmax l3 l5)), some (qi (l4 + 1)), some (qi l5), some (qi l6)] [] t D Q))))) : wp S 94 17 [some (qi l0), some (qi l1), some (qi l2), some (qi l3), some (qi l4), some (qi l5), some (qi l6)] [] t D Q := vc_ok (cuts := [5, 17]) 600 17 _ _ _ _ h
