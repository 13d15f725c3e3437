/-! blocks of the law's own methods, written by wip/p30/mklaw.py -/
/-! 116 L_law -/
set_option maxRecDepth 100000 in
theorem lb116_42 {S : (Nat → Int32) × Nat} {t : qT} {D : qD} {Q : Int → qT → qD → Prop} (h :
wp S 98 0 [some qx, some (qi 0), some (qs 28), some (qs 29), some (qs 30), none, none, none, none, none, none, none, none, none, none, none] [] t D (fun x1 t1 D1 =>
  (wp S 116 53 [some qx, some (qs 0), some (qs 28), some (qs 29), some (qs 30), some (qs 31), some (qs 32), some (qs 33), some (qi x1), none, none, none] [] t1 D1 Q))) : wp S 116 42 [some qx, some (qs 0), some (qs 28), some (qs 29), some (qs 30), some (qs 31), some (qs 32), some (qs 33), none, none, none, none] [] t D Q := vc_ok (cuts := [42, 53, 98, 100, 103, 114, 128, 193, 199, 211, 214, 289, 291, 357, 363, 386, 399, 412, 424, 437, 450, 464, 478, 490, 501, 520, 530, 540, 551, 561, 572, 583, 596, 607, 617, 627, 640, 651, 662, 673, 686, 698, 710, 722, 735, 747, 763]) 600 42 _ _ _ _ h
set_option maxRecDepth 100000 in
theorem lb116_53 {S : (Nat → Int32) × Nat} {t : qT} {D : qD} {Q : Int → qT → qD → Prop} {l8 : Int} (h :
wp S 100 0 [some (qs 0), some (qs 30), some (qi l8), none] [] t D (fun x1 t1 D1 =>
  (chk (qR x1)
    (if x1 = 0 then
      (wp S 116 98 [some qx, some (qs 0), some (qs 28), some (qs 29), some (qs 30), some (qs 31), some (qs 32), some (qs 33), some (qi l8), none, none, none] [] t1 D1 Q)
      else
      (wp S 65 0 [some (qs 0)] [] t1 D1 (fun x2 t2 D2 =>
          (chk (qR x2)
            (chk (qR l8)
              (if x2 = l8 then
                (wp S 66 0 [some (qs 0), none, none] [] t2 D2 (fun x3 t3 D3 =>
                    (chk (qR x3)
                      (chk (qR (D3 28 0))
                        (if x3 = (D3 28 0) then
                        (wp S 108 0 [some (qs 0), some (qs 28), some (qs 29), some (qs 30), some (qs 31), some (qs 32), none, none, none, none, none, none] [] t3 D3 (fun x4 t4 D4 =>
                        (chk (qR x4)
                        (if x4 = 0 then
                        (wp S 116 98 [some qx, some (qs 0), some (qs 28), some (qs 29), some (qs 30), some (qs 31), some (qs 32), some (qs 33), some (qi l8), none, none, none] [] t4 D4 Q)
                        else
                        (wp S 116 100 [some qx, some (qs 0), some (qs 28), some (qs 29), some (qs 30), some (qs 31), some (qs 32), some (qs 33), some (qi l8), none, none, none] [] t4 D4 Q)))))
                        else
                        (wp S 116 98 [some qx, some (qs 0), some (qs 28), some (qs 29), some (qs 30), some (qs 31), some (qs 32), some (qs 33), some (qi l8), none, none, none] [] t3 D3 Q))))))
                else
                (wp S 116 98 [some qx, some (qs 0), some (qs 28), some (qs 29), some (qs 30), some (qs 31), some (qs 32), some (qs 33), some (qi l8), none, none, none] [] t2 D2 Q)))))))))) : wp S 116 53 [some qx, some (qs 0), some (qs 28), some (qs 29), some (qs 30), some (qs 31), some (qs 32), some (qs 33), some (qi l8), none, none, none] [] t D Q := vc_ok (cuts := [42, 53, 98, 100, 103, 114, 128, 193, 199, 211, 214, 289, 291, 357, 363, 386, 399, 412, 424, 437, 450, 464, 478, 490, 501, 520, 530, 540, 551, 561, 572, 583, 596, 607, 617, 627, 640, 651, 662, 673, 686, 698, 710, 722, 735, 747, 763]) 600 53 _ _ _ _ h
set_option maxRecDepth 100000 in
theorem lb116_98 {S : (Nat → Int32) × Nat} {t : qT} {D : qD} {Q : Int → qT → qD → Prop} {l8 : Int} (h :
Q 0 t D) : wp S 116 98 [some qx, some (qs 0), some (qs 28), some (qs 29), some (qs 30), some (qs 31), some (qs 32), some (qs 33), some (qi l8), none, none, none] [] t D Q := vc_ok (cuts := [42, 53, 98, 100, 103, 114, 128, 193, 199, 211, 214, 289, 291, 357, 363, 386, 399, 412, 424, 437, 450, 464, 478, 490, 501, 520, 530, 540, 551, 561, 572, 583, 596, 607, 617, 627, 640, 651, 662, 673, 686, 698, 710, 722, 735, 747, 763]) 600 98 _ _ _ _ h
set_option maxRecDepth 100000 in
theorem lb116_100 {S : (Nat → Int32) × Nat} {t : qT} {D : qD} {Q : Int → qT → qD → Prop} {l8 : Int} (h :
wp S 116 103 [some qx, some (qs 0), some (qs 28), some (qs 29), some (qs 30), some (qs 31), some (qs 32), some (qs 33), some (qi l8), some (qi 0), none, none] [] t D Q) : wp S 116 100 [some qx, some (qs 0), some (qs 28), some (qs 29), some (qs 30), some (qs 31), some (qs 32), some (qs 33), some (qi l8), none, none, none] [] t D Q := vc_ok (cuts := [42, 53, 98, 100, 103, 114, 128, 193, 199, 211, 214, 289, 291, 357, 363, 386, 399, 412, 424, 437, 450, 464, 478, 490, 501, 520, 530, 540, 551, 561, 572, 583, 596, 607, 617, 627, 640, 651, 662, 673, 686, 698, 710, 722, 735, 747, 763]) 600 100 _ _ _ _ h
set_option maxRecDepth 100000 in
theorem lb116_103 {S : (Nat → Int32) × Nat} {t : qT} {D : qD} {Q : Int → qT → qD → Prop} {l8 l9 : Int} {o10 o11 : Option qV} (h :
chk (qR l9)
(chk (qR (D 28 0))
  (if l9 < (D 28 0) then
    (wp S 116 114 [some qx, some (qs 0), some (qs 28), some (qs 29), some (qs 30), some (qs 31), some (qs 32), some (qs 33), some (qi l8), some (qi l9), some (qi 0), o11] [] t D Q)
    else
    (wp S 116 211 [some qx, some (qs 0), some (qs 28), some (qs 29), some (qs 30), some (qs 31), some (qs 32), some (qs 33), some (qi l8), some (qi l9), o10, o11] [] t D Q)))) : wp S 116 103 [some qx, some (qs 0), some (qs 28), some (qs 29), some (qs 30), some (qs 31), some (qs 32), some (qs 33), some (qi l8), some (qi l9), o10, o11] [] t D Q := vc_ok (cuts := [42, 53, 98, 100, 103, 114, 128, 193, 199, 211, 214, 289, 291, 357, 363, 386, 399, 412, 424, 437, 450, 464, 478, 490, 501, 520, 530, 540, 551, 561, 572, 583, 596, 607, 617, 627, 640, 651, 662, 673, 686, 698, 710, 722, 735, 747, 763]) 600 103 _ _ _ _ h
set_option maxRecDepth 100000 in
theorem lb116_114 {S : (Nat → Int32) × Nat} {t : qT} {D : qD} {Q : Int → qT → qD → Prop} {l8 l9 l10 : Int} {o11 : Option qV} (h :
chk (0 ≤ (4 + l9) ∧ (4 + l9) < 16)
(chk (qR l10)
  (chk (qR (D 28 (4 + l9)))
    (if l10 < (D 28 (4 + l9)) then
      (wp S 116 128 [some qx, some (qs 0), some (qs 28), some (qs 29), some (qs 30), some (qs 31), some (qs 32), some (qs 33), some (qi l8), some (qi l9), some (qi l10), some (qi 0)] [] t D Q)
      else
      (wp S 116 103 [some qx, some (qs 0), some (qs 28), some (qs 29), some (qs 30), some (qs 31), some (qs 32), some (qs 33), some (qi l8), some (qi (l9 + 1)), some (qi l10), o11] [] t D Q))))) : wp S 116 114 [some qx, some (qs 0), some (qs 28), some (qs 29), some (qs 30), some (qs 31), some (qs 32), some (qs 33), some (qi l8), some (qi l9), some (qi l10), o11] [] t D Q := vc_ok (cuts := [42, 53, 98, 100, 103, 114, 128, 193, 199, 211, 214, 289, 291, 357, 363, 386, 399, 412, 424, 437, 450, 464, 478, 490, 501, 520, 530, 540, 551, 561, 572, 583, 596, 607, 617, 627, 640, 651, 662, 673, 686, 698, 710, 722, 735, 747, 763]) 600 114 _ _ _ _ h
set_option maxRecDepth 100000 in
theorem lb116_128 {S : (Nat → Int32) × Nat} {t : qT} {D : qD} {Q : Int → qT → qD → Prop} {l8 l9 l10 l11 : Int} (h :
chk (qR l11)
(if l11 < 5 then
  (wp S 69 0 [some (qs 0), some (qi l9), some (qi l10), some (qi l11)] [] t D (fun x1 t1 D1 =>
      (chk (qR l11)
        (if l11 = 0 then
          (chk (qR x1)
            (chk (qR l10)
              (if x1 = l10 then
                (wp S 116 193 [some qx, some (qs 0), some (qs 28), some (qs 29), some (qs 30), some (qs 31), some (qs 32), some (qs 33), some (qi l8), some (qi l9), some (qi l10), some (qi l11)] [] t1 D1 Q)
                else
                (Q 0 t1 D1))))
          else
          (chk (0 ≤ ((3 * l9) + l10) ∧ ((3 * l9) + l10) < 9)
            (chk (qR l11)
              (chk (qR (D1 29 ((3 * l9) + l10)))
                (if l11 = (D1 29 ((3 * l9) + l10)) then
                  (chk (qR x1)
                    (chk (qR l10)
                      (if x1 = l10 then
                        (wp S 116 193 [some qx, some (qs 0), some (qs 28), some (qs 29), some (qs 30), some (qs 31), some (qs 32), some (qs 33), some (qi l8), some (qi l9), some (qi l10), some (qi l11)] [] t1 D1 Q)
                        else
                        (Q 0 t1 D1))))
                  else
                  (chk (qR l11)
                    (if l11 = 2 then
                      (chk (0 ≤ ((3 * l9) + l10) ∧ ((3 * l9) + l10) < 9)
                        (chk (qR (D1 29 ((3 * l9) + l10)))
                        (if (D1 29 ((3 * l9) + l10)) = 4 then
                        (chk (qR x1)
                        (chk (qR l10)
                        (if x1 = l10 then
                        (wp S 116 193 [some qx, some (qs 0), some (qs 28), some (qs 29), some (qs 30), some (qs 31), some (qs 32), some (qs 33), some (qi l8), some (qi l9), some (qi l10), some (qi l11)] [] t1 D1 Q)
                        else
                        (Q 0 t1 D1))))
                        else
                        (chk (qR x1)
                        (if x1 = (-1) then
                        (wp S 116 193 [some qx, some (qs 0), some (qs 28), some (qs 29), some (qs 30), some (qs 31), some (qs 32), some (qs 33), some (qi l8), some (qi l9), some (qi l10), some (qi l11)] [] t1 D1 Q)
                        else
                        (Q 0 t1 D1))))))
                      else
                      (chk (qR x1)
                        (if x1 = (-1) then
                        (wp S 116 193 [some qx, some (qs 0), some (qs 28), some (qs 29), some (qs 30), some (qs 31), some (qs 32), some (qs 33), some (qi l8), some (qi l9), some (qi l10), some (qi l11)] [] t1 D1 Q)
                        else
                        (Q 0 t1 D1)))))))))))))
  else
  (wp S 116 199 [some qx, some (qs 0), some (qs 28), some (qs 29), some (qs 30), some (qs 31), some (qs 32), some (qs 33), some (qi l8), some (qi l9), some (qi l10), some (qi l11)] [] t D Q))) : wp S 116 128 [some qx, some (qs 0), some (qs 28), some (qs 29), some (qs 30), some (qs 31), some (qs 32), some (qs 33), some (qi l8), some (qi l9), some (qi l10), some (qi l11)] [] t D Q := vc_ok (cuts := [42, 53, 98, 100, 103, 114, 128, 193, 199, 211, 214, 289, 291, 357, 363, 386, 399, 412, 424, 437, 450, 464, 478, 490, 501, 520, 530, 540, 551, 561, 572, 583, 596, 607, 617, 627, 640, 651, 662, 673, 686, 698, 710, 722, 735, 747, 763]) 600 128 _ _ _ _ h
set_option maxRecDepth 100000 in
theorem lb116_193 {S : (Nat → Int32) × Nat} {t : qT} {D : qD} {Q : Int → qT → qD → Prop} {l8 l9 l10 l11 : Int} (h :
wp S 116 128 [some qx, some (qs 0), some (qs 28), some (qs 29), some (qs 30), some (qs 31), some (qs 32), some (qs 33), some (qi l8), some (qi l9), some (qi l10), some (qi (l11 + 1))] [] t D Q) : wp S 116 193 [some qx, some (qs 0), some (qs 28), some (qs 29), some (qs 30), some (qs 31), some (qs 32), some (qs 33), some (qi l8), some (qi l9), some (qi l10), some (qi l11)] [] t D Q := vc_ok (cuts := [42, 53, 98, 100, 103, 114, 128, 193, 199, 211, 214, 289, 291, 357, 363, 386, 399, 412, 424, 437, 450, 464, 478, 490, 501, 520, 530, 540, 551, 561, 572, 583, 596, 607, 617, 627, 640, 651, 662, 673, 686, 698, 710, 722, 735, 747, 763]) 600 193 _ _ _ _ h
set_option maxRecDepth 100000 in
theorem lb116_199 {S : (Nat → Int32) × Nat} {t : qT} {D : qD} {Q : Int → qT → qD → Prop} {l8 l9 l10 l11 : Int} (h :
wp S 116 114 [some qx, some (qs 0), some (qs 28), some (qs 29), some (qs 30), some (qs 31), some (qs 32), some (qs 33), some (qi l8), some (qi l9), some (qi (l10 + 1)), some (qi l11)] [] t D Q) : wp S 116 199 [some qx, some (qs 0), some (qs 28), some (qs 29), some (qs 30), some (qs 31), some (qs 32), some (qs 33), some (qi l8), some (qi l9), some (qi l10), some (qi l11)] [] t D Q := vc_ok (cuts := [42, 53, 98, 100, 103, 114, 128, 193, 199, 211, 214, 289, 291, 357, 363, 386, 399, 412, 424, 437, 450, 464, 478, 490, 501, 520, 530, 540, 551, 561, 572, 583, 596, 607, 617, 627, 640, 651, 662, 673, 686, 698, 710, 722, 735, 747, 763]) 600 199 _ _ _ _ h
set_option maxRecDepth 100000 in
theorem lb116_211 {S : (Nat → Int32) × Nat} {t : qT} {D : qD} {Q : Int → qT → qD → Prop} {l8 l9 : Int} {o10 o11 : Option qV} (h :
wp S 116 214 [some qx, some (qs 0), some (qs 28), some (qs 29), some (qs 30), some (qs 31), some (qs 32), some (qs 33), some (qi l8), some (qi 0), o10, o11] [] t D Q) : wp S 116 211 [some qx, some (qs 0), some (qs 28), some (qs 29), some (qs 30), some (qs 31), some (qs 32), some (qs 33), some (qi l8), some (qi l9), o10, o11] [] t D Q := vc_ok (cuts := [42, 53, 98, 100, 103, 114, 128, 193, 199, 211, 214, 289, 291, 357, 363, 386, 399, 412, 424, 437, 450, 464, 478, 490, 501, 520, 530, 540, 551, 561, 572, 583, 596, 607, 617, 627, 640, 651, 662, 673, 686, 698, 710, 722, 735, 747, 763]) 600 211 _ _ _ _ h
set_option maxRecDepth 100000 in
theorem lb116_214 {S : (Nat → Int32) × Nat} {t : qT} {D : qD} {Q : Int → qT → qD → Prop} {l8 l9 : Int} {o10 o11 : Option qV} (h :
chk (qR l9)
(if l9 < 36 then
  (wp S 96 0 [some qx, some (qi (7 + l9))] [] t D (fun x1 t1 D1 =>
      (wp S 111 0 [some (qs 0), some (qs 28), some (qs 29), some (qs 30), some (qs 31), some (qs 32), some (qs 33), some (qi x1), none, none, none, none] [] t1 D1 (fun x2 t2 D2 =>
          (chk (qR x2)
            (if x2 = 0 then
              (wp S 116 289 [some qx, some (qs 0), some (qs 28), some (qs 29), some (qs 30), some (qs 31), some (qs 32), some (qs 33), some (qi l8), some (qi l9), some (qi x1), o11] [] t2 D2 Q)
              else
              (wp S 109 0 [some (qs 0), some (qs 28), some (qs 30), some (qs 31), some (qs 32), none, none, none, none] [] t2 D2 (fun x3 t3 D3 =>
                  (chk (qR x3)
                    (if x3 = 0 then
                      (wp S 116 289 [some qx, some (qs 0), some (qs 28), some (qs 29), some (qs 30), some (qs 31), some (qs 32), some (qs 33), some (qi l8), some (qi l9), some (qi x1), o11] [] t3 D3 Q)
                      else
                      (wp S 113 0 [some (qs 0), some (qs 28), some (qs 29), some (qs 30), some (qs 31), some (qs 32), none, none, none] [] t3 D3 (fun x4 t4 D4 =>
                        (chk (qR x4)
                        (if x4 = 0 then
                        (wp S 116 289 [some qx, some (qs 0), some (qs 28), some (qs 29), some (qs 30), some (qs 31), some (qs 32), some (qs 33), some (qi l8), some (qi l9), some (qi x1), o11] [] t4 D4 Q)
                        else
                        (wp S 112 0 [some (qs 0), some (qs 33), none] [] t4 D4 (fun x5 t5 D5 =>
                        (chk (qR x5)
                        (if x5 = 0 then
                        (wp S 116 289 [some qx, some (qs 0), some (qs 28), some (qs 29), some (qs 30), some (qs 31), some (qs 32), some (qs 33), some (qi l8), some (qi l9), some (qi x1), o11] [] t5 D5 Q)
                        else
                        (wp S 116 291 [some qx, some (qs 0), some (qs 28), some (qs 29), some (qs 30), some (qs 31), some (qs 32), some (qs 33), some (qi l8), some (qi l9), some (qi x1), o11] [] t5 D5 Q)))))))))))))))))))
  else
  (wp S 116 363 [some qx, some (qs 0), some (qs 28), some (qs 29), some (qs 30), some (qs 31), some (qs 32), some (qs 33), some (qi l8), some (qi l9), o10, o11] [] t D Q))) : wp S 116 214 [some qx, some (qs 0), some (qs 28), some (qs 29), some (qs 30), some (qs 31), some (qs 32), some (qs 33), some (qi l8), some (qi l9), o10, o11] [] t D Q := vc_ok (cuts := [42, 53, 98, 100, 103, 114, 128, 193, 199, 211, 214, 289, 291, 357, 363, 386, 399, 412, 424, 437, 450, 464, 478, 490, 501, 520, 530, 540, 551, 561, 572, 583, 596, 607, 617, 627, 640, 651, 662, 673, 686, 698, 710, 722, 735, 747, 763]) 600 214 _ _ _ _ h
set_option maxRecDepth 100000 in
theorem lb116_289 {S : (Nat → Int32) × Nat} {t : qT} {D : qD} {Q : Int → qT → qD → Prop} {l8 l9 l10 : Int} {o11 : Option qV} (h :
Q 0 t D) : wp S 116 289 [some qx, some (qs 0), some (qs 28), some (qs 29), some (qs 30), some (qs 31), some (qs 32), some (qs 33), some (qi l8), some (qi l9), some (qi l10), o11] [] t D Q := vc_ok (cuts := [42, 53, 98, 100, 103, 114, 128, 193, 199, 211, 214, 289, 291, 357, 363, 386, 399, 412, 424, 437, 450, 464, 478, 490, 501, 520, 530, 540, 551, 561, 572, 583, 596, 607, 617, 627, 640, 651, 662, 673, 686, 698, 710, 722, 735, 747, 763]) 600 289 _ _ _ _ h
set_option maxRecDepth 100000 in
theorem lb116_291 {S : (Nat → Int32) × Nat} {t : qT} {D : qD} {Q : Int → qT → qD → Prop} {l8 l9 l10 : Int} {o11 : Option qV} (h :
chk (0 ≤ l9 ∧ l9 < 2147483648)
(chk (qR (l9 % 9))
  (if (l9 % 9) = 0 then
    (wp S 108 0 [some (qs 0), some (qs 28), some (qs 29), some (qs 30), some (qs 31), some (qs 32), none, none, none, none, none, none] [] t D (fun x1 t1 D1 =>
        (chk (qR x1)
          (if x1 = 0 then
            (Q 0 t1 D1)
            else
            (wp S 97 0 [some (qi (qshr l10 3)), some (qi 99)] [] t1 D1 (fun x2 t2 D2 =>
                (chk (0 ≤ l9 ∧ l9 < 2147483648)
                  (wp S 96 0 [some qx, some (qi (43 + (l9 / 9)))] [] t2 D2 (fun x3 t3 D3 =>
                      (wp S 114 0 [some (qs 0), some (qs 28), some (qs 29), some (qs 30), some (qs 31), some (qs 32), some (qi (1 + x2)), some (qi (qand x3 2147483647)), none, none, none, none, none, none, none, none, none] [] t3 D3 (fun x4 t4 D4 =>
                        (chk (qR x4)
                        (if x4 = 0 then
                        (Q 0 t4 D4)
                        else
                        (wp S 116 357 [some qx, some (qs 0), some (qs 28), some (qs 29), some (qs 30), some (qs 31), some (qs 32), some (qs 33), some (qi l8), some (qi l9), some (qi l10), o11] [] t4 D4 Q))))))))))))))
    else
    (wp S 116 357 [some qx, some (qs 0), some (qs 28), some (qs 29), some (qs 30), some (qs 31), some (qs 32), some (qs 33), some (qi l8), some (qi l9), some (qi l10), o11] [] t D Q)))) : wp S 116 291 [some qx, some (qs 0), some (qs 28), some (qs 29), some (qs 30), some (qs 31), some (qs 32), some (qs 33), some (qi l8), some (qi l9), some (qi l10), o11] [] t D Q := vc_ok (cuts := [42, 53, 98, 100, 103, 114, 128, 193, 199, 211, 214, 289, 291, 357, 363, 386, 399, 412, 424, 437, 450, 464, 478, 490, 501, 520, 530, 540, 551, 561, 572, 583, 596, 607, 617, 627, 640, 651, 662, 673, 686, 698, 710, 722, 735, 747, 763]) 600 291 _ _ _ _ h
set_option maxRecDepth 100000 in
theorem lb116_357 {S : (Nat → Int32) × Nat} {t : qT} {D : qD} {Q : Int → qT → qD → Prop} {l8 l9 l10 : Int} {o11 : Option qV} (h :
wp S 116 214 [some qx, some (qs 0), some (qs 28), some (qs 29), some (qs 30), some (qs 31), some (qs 32), some (qs 33), some (qi l8), some (qi (l9 + 1)), some (qi l10), o11] [] t D Q) : wp S 116 357 [some qx, some (qs 0), some (qs 28), some (qs 29), some (qs 30), some (qs 31), some (qs 32), some (qs 33), some (qi l8), some (qi l9), some (qi l10), o11] [] t D Q := vc_ok (cuts := [42, 53, 98, 100, 103, 114, 128, 193, 199, 211, 214, 289, 291, 357, 363, 386, 399, 412, 424, 437, 450, 464, 478, 490, 501, 520, 530, 540, 551, 561, 572, 583, 596, 607, 617, 627, 640, 651, 662, 673, 686, 698, 710, 722, 735, 747, 763]) 600 357 _ _ _ _ h
set_option maxRecDepth 100000 in
theorem lb116_363 {S : (Nat → Int32) × Nat} {t : qT} {D : qD} {Q : Int → qT → qD → Prop} {l8 l9 : Int} {o10 o11 : Option qV} (h :
wp S 114 0 [some (qs 0), some (qs 28), some (qs 29), some (qs 30), some (qs 31), some (qs 32), some (qi 99), some (qi 0), none, none, none, none, none, none, none, none, none] [] t D (fun x1 t1 D1 =>
  (chk (qR x1)
    (if x1 = 0 then
      (wp S 116 763 [some qx, some (qs 0), some (qs 28), some (qs 29), some (qs 30), some (qs 31), some (qs 32), some (qs 33), some (qi l8), some (qi (D 28 0)), o10, o11] [] t1 D1 Q)
      else
      (wp S 116 386 [some qx, some (qs 0), some (qs 28), some (qs 29), some (qs 30), some (qs 31), some (qs 32), some (qs 33), some (qi l8), some (qi (D 28 0)), o10, o11] [] t1 D1 Q))))) : wp S 116 363 [some qx, some (qs 0), some (qs 28), some (qs 29), some (qs 30), some (qs 31), some (qs 32), some (qs 33), some (qi l8), some (qi l9), o10, o11] [] t D Q := vc_ok (cuts := [42, 53, 98, 100, 103, 114, 128, 193, 199, 211, 214, 289, 291, 357, 363, 386, 399, 412, 424, 437, 450, 464, 478, 490, 501, 520, 530, 540, 551, 561, 572, 583, 596, 607, 617, 627, 640, 651, 662, 673, 686, 698, 710, 722, 735, 747, 763]) 600 363 _ _ _ _ h
set_option maxRecDepth 100000 in
theorem lb116_386 {S : (Nat → Int32) × Nat} {t : qT} {D : qD} {Q : Int → qT → qD → Prop} {l8 l9 : Int} {o10 o11 : Option qV} (h :
wp S 67 0 [some (qs 0), some (qi l9), some (qi 0), some (qi 0)] [] t D (fun x1 t1 D1 =>
  (chk (qR x1)
    (if x1 = (-101) then
      (wp S 116 399 [some qx, some (qs 0), some (qs 28), some (qs 29), some (qs 30), some (qs 31), some (qs 32), some (qs 33), some (qi l8), some (qi l9), o10, o11] [] t1 D1 Q)
      else
      (wp S 116 763 [some qx, some (qs 0), some (qs 28), some (qs 29), some (qs 30), some (qs 31), some (qs 32), some (qs 33), some (qi l8), some (qi l9), o10, o11] [] t1 D1 Q))))) : wp S 116 386 [some qx, some (qs 0), some (qs 28), some (qs 29), some (qs 30), some (qs 31), some (qs 32), some (qs 33), some (qi l8), some (qi l9), o10, o11] [] t D Q := vc_ok (cuts := [42, 53, 98, 100, 103, 114, 128, 193, 199, 211, 214, 289, 291, 357, 363, 386, 399, 412, 424, 437, 450, 464, 478, 490, 501, 520, 530, 540, 551, 561, 572, 583, 596, 607, 617, 627, 640, 651, 662, 673, 686, 698, 710, 722, 735, 747, 763]) 600 386 _ _ _ _ h
set_option maxRecDepth 100000 in
theorem lb116_399 {S : (Nat → Int32) × Nat} {t : qT} {D : qD} {Q : Int → qT → qD → Prop} {l8 l9 : Int} {o10 o11 : Option qV} (h :
wp S 67 0 [some (qs 0), some (qi 0), some (qi 10), some (qi 0)] [] t D (fun x1 t1 D1 =>
  (chk (qR x1)
    (if x1 = (-101) then
      (wp S 116 412 [some qx, some (qs 0), some (qs 28), some (qs 29), some (qs 30), some (qs 31), some (qs 32), some (qs 33), some (qi l8), some (qi l9), o10, o11] [] t1 D1 Q)
      else
      (wp S 116 763 [some qx, some (qs 0), some (qs 28), some (qs 29), some (qs 30), some (qs 31), some (qs 32), some (qs 33), some (qi l8), some (qi l9), o10, o11] [] t1 D1 Q))))) : wp S 116 399 [some qx, some (qs 0), some (qs 28), some (qs 29), some (qs 30), some (qs 31), some (qs 32), some (qs 33), some (qi l8), some (qi l9), o10, o11] [] t D Q := vc_ok (cuts := [42, 53, 98, 100, 103, 114, 128, 193, 199, 211, 214, 289, 291, 357, 363, 386, 399, 412, 424, 437, 450, 464, 478, 490, 501, 520, 530, 540, 551, 561, 572, 583, 596, 607, 617, 627, 640, 651, 662, 673, 686, 698, 710, 722, 735, 747, 763]) 600 399 _ _ _ _ h
set_option maxRecDepth 100000 in
theorem lb116_412 {S : (Nat → Int32) × Nat} {t : qT} {D : qD} {Q : Int → qT → qD → Prop} {l8 l9 : Int} {o10 o11 : Option qV} (h :
wp S 67 0 [some (qs 0), some (qi 0), some (qi (-1)), some (qi 0)] [] t D (fun x1 t1 D1 =>
  (chk (qR x1)
    (if x1 = (-101) then
      (wp S 116 424 [some qx, some (qs 0), some (qs 28), some (qs 29), some (qs 30), some (qs 31), some (qs 32), some (qs 33), some (qi l8), some (qi l9), o10, o11] [] t1 D1 Q)
      else
      (wp S 116 763 [some qx, some (qs 0), some (qs 28), some (qs 29), some (qs 30), some (qs 31), some (qs 32), some (qs 33), some (qi l8), some (qi l9), o10, o11] [] t1 D1 Q))))) : wp S 116 412 [some qx, some (qs 0), some (qs 28), some (qs 29), some (qs 30), some (qs 31), some (qs 32), some (qs 33), some (qi l8), some (qi l9), o10, o11] [] t D Q := vc_ok (cuts := [42, 53, 98, 100, 103, 114, 128, 193, 199, 211, 214, 289, 291, 357, 363, 386, 399, 412, 424, 437, 450, 464, 478, 490, 501, 520, 530, 540, 551, 561, 572, 583, 596, 607, 617, 627, 640, 651, 662, 673, 686, 698, 710, 722, 735, 747, 763]) 600 412 _ _ _ _ h
set_option maxRecDepth 100000 in
theorem lb116_424 {S : (Nat → Int32) × Nat} {t : qT} {D : qD} {Q : Int → qT → qD → Prop} {l8 l9 : Int} {o10 o11 : Option qV} (h :
wp S 67 0 [some (qs 0), some (qi 0), some (qi 0), some (qi 6)] [] t D (fun x1 t1 D1 =>
  (chk (qR x1)
    (if x1 = (-102) then
      (wp S 116 437 [some qx, some (qs 0), some (qs 28), some (qs 29), some (qs 30), some (qs 31), some (qs 32), some (qs 33), some (qi l8), some (qi l9), o10, o11] [] t1 D1 Q)
      else
      (wp S 116 763 [some qx, some (qs 0), some (qs 28), some (qs 29), some (qs 30), some (qs 31), some (qs 32), some (qs 33), some (qi l8), some (qi l9), o10, o11] [] t1 D1 Q))))) : wp S 116 424 [some qx, some (qs 0), some (qs 28), some (qs 29), some (qs 30), some (qs 31), some (qs 32), some (qs 33), some (qi l8), some (qi l9), o10, o11] [] t D Q := vc_ok (cuts := [42, 53, 98, 100, 103, 114, 128, 193, 199, 211, 214, 289, 291, 357, 363, 386, 399, 412, 424, 437, 450, 464, 478, 490, 501, 520, 530, 540, 551, 561, 572, 583, 596, 607, 617, 627, 640, 651, 662, 673, 686, 698, 710, 722, 735, 747, 763]) 600 424 _ _ _ _ h
set_option maxRecDepth 100000 in
theorem lb116_437 {S : (Nat → Int32) × Nat} {t : qT} {D : qD} {Q : Int → qT → qD → Prop} {l8 l9 : Int} {o10 o11 : Option qV} (h :
wp S 68 0 [some (qs 0), some (qi l9), some (qi 0), some (qi 0), none, none] [] t D (fun x1 t1 D1 =>
  (chk (qR x1)
    (if x1 = (-101) then
      (wp S 116 450 [some qx, some (qs 0), some (qs 28), some (qs 29), some (qs 30), some (qs 31), some (qs 32), some (qs 33), some (qi l8), some (qi l9), o10, o11] [] t1 D1 Q)
      else
      (wp S 116 763 [some qx, some (qs 0), some (qs 28), some (qs 29), some (qs 30), some (qs 31), some (qs 32), some (qs 33), some (qi l8), some (qi l9), o10, o11] [] t1 D1 Q))))) : wp S 116 437 [some qx, some (qs 0), some (qs 28), some (qs 29), some (qs 30), some (qs 31), some (qs 32), some (qs 33), some (qi l8), some (qi l9), o10, o11] [] t D Q := vc_ok (cuts := [42, 53, 98, 100, 103, 114, 128, 193, 199, 211, 214, 289, 291, 357, 363, 386, 399, 412, 424, 437, 450, 464, 478, 490, 501, 520, 530, 540, 551, 561, 572, 583, 596, 607, 617, 627, 640, 651, 662, 673, 686, 698, 710, 722, 735, 747, 763]) 600 437 _ _ _ _ h
set_option maxRecDepth 100000 in
theorem lb116_450 {S : (Nat → Int32) × Nat} {t : qT} {D : qD} {Q : Int → qT → qD → Prop} {l8 l9 : Int} {o10 o11 : Option qV} (h :
wp S 68 0 [some (qs 0), some (qi 0), some (qi (D 28 4)), some (qi 0), none, none] [] t D (fun x1 t1 D1 =>
  (chk (qR x1)
    (if x1 = (-101) then
      (wp S 116 464 [some qx, some (qs 0), some (qs 28), some (qs 29), some (qs 30), some (qs 31), some (qs 32), some (qs 33), some (qi l8), some (qi l9), o10, o11] [] t1 D1 Q)
      else
      (wp S 116 763 [some qx, some (qs 0), some (qs 28), some (qs 29), some (qs 30), some (qs 31), some (qs 32), some (qs 33), some (qi l8), some (qi l9), o10, o11] [] t1 D1 Q))))) : wp S 116 450 [some qx, some (qs 0), some (qs 28), some (qs 29), some (qs 30), some (qs 31), some (qs 32), some (qs 33), some (qi l8), some (qi l9), o10, o11] [] t D Q := vc_ok (cuts := [42, 53, 98, 100, 103, 114, 128, 193, 199, 211, 214, 289, 291, 357, 363, 386, 399, 412, 424, 437, 450, 464, 478, 490, 501, 520, 530, 540, 551, 561, 572, 583, 596, 607, 617, 627, 640, 651, 662, 673, 686, 698, 710, 722, 735, 747, 763]) 600 450 _ _ _ _ h
set_option maxRecDepth 100000 in
theorem lb116_464 {S : (Nat → Int32) × Nat} {t : qT} {D : qD} {Q : Int → qT → qD → Prop} {l8 l9 : Int} {o10 o11 : Option qV} (h :
wp S 69 0 [some (qs 0), some (qi 0), some (qi (D 28 4)), some (qi 0)] [] t D (fun x1 t1 D1 =>
  (chk (qR x1)
    (if x1 = (-101) then
      (wp S 116 478 [some qx, some (qs 0), some (qs 28), some (qs 29), some (qs 30), some (qs 31), some (qs 32), some (qs 33), some (qi l8), some (qi l9), o10, o11] [] t1 D1 Q)
      else
      (wp S 116 763 [some qx, some (qs 0), some (qs 28), some (qs 29), some (qs 30), some (qs 31), some (qs 32), some (qs 33), some (qi l8), some (qi l9), o10, o11] [] t1 D1 Q))))) : wp S 116 464 [some qx, some (qs 0), some (qs 28), some (qs 29), some (qs 30), some (qs 31), some (qs 32), some (qs 33), some (qi l8), some (qi l9), o10, o11] [] t D Q := vc_ok (cuts := [42, 53, 98, 100, 103, 114, 128, 193, 199, 211, 214, 289, 291, 357, 363, 386, 399, 412, 424, 437, 450, 464, 478, 490, 501, 520, 530, 540, 551, 561, 572, 583, 596, 607, 617, 627, 640, 651, 662, 673, 686, 698, 710, 722, 735, 747, 763]) 600 464 _ _ _ _ h
set_option maxRecDepth 100000 in
theorem lb116_478 {S : (Nat → Int32) × Nat} {t : qT} {D : qD} {Q : Int → qT → qD → Prop} {l8 l9 : Int} {o10 o11 : Option qV} (h :
wp S 70 0 [some (qs 0), some (qi 8), some (qi 0), none] [] t D (fun x1 t1 D1 =>
  (chk (qR x1)
    (if x1 = (-101) then
      (wp S 116 490 [some qx, some (qs 0), some (qs 28), some (qs 29), some (qs 30), some (qs 31), some (qs 32), some (qs 33), some (qi l8), some (qi l9), o10, o11] [] t1 D1 Q)
      else
      (wp S 116 763 [some qx, some (qs 0), some (qs 28), some (qs 29), some (qs 30), some (qs 31), some (qs 32), some (qs 33), some (qi l8), some (qi l9), o10, o11] [] t1 D1 Q))))) : wp S 116 478 [some qx, some (qs 0), some (qs 28), some (qs 29), some (qs 30), some (qs 31), some (qs 32), some (qs 33), some (qi l8), some (qi l9), o10, o11] [] t D Q := vc_ok (cuts := [42, 53, 98, 100, 103, 114, 128, 193, 199, 211, 214, 289, 291, 357, 363, 386, 399, 412, 424, 437, 450, 464, 478, 490, 501, 520, 530, 540, 551, 561, 572, 583, 596, 607, 617, 627, 640, 651, 662, 673, 686, 698, 710, 722, 735, 747, 763]) 600 478 _ _ _ _ h
set_option maxRecDepth 100000 in
theorem lb116_490 {S : (Nat → Int32) × Nat} {t : qT} {D : qD} {Q : Int → qT → qD → Prop} {l8 l9 : Int} {o10 o11 : Option qV} (h :
wp S 70 0 [some (qs 0), some (qi (-1)), some (qi 0), none] [] t D (fun x1 t1 D1 =>
  (chk (qR x1)
    (if x1 = (-101) then
      (wp S 116 501 [some qx, some (qs 0), some (qs 28), some (qs 29), some (qs 30), some (qs 31), some (qs 32), some (qs 33), some (qi l8), some (qi l9), o10, o11] [] t1 D1 Q)
      else
      (wp S 116 763 [some qx, some (qs 0), some (qs 28), some (qs 29), some (qs 30), some (qs 31), some (qs 32), some (qs 33), some (qi l8), some (qi l9), o10, o11] [] t1 D1 Q))))) : wp S 116 490 [some qx, some (qs 0), some (qs 28), some (qs 29), some (qs 30), some (qs 31), some (qs 32), some (qs 33), some (qi l8), some (qi l9), o10, o11] [] t D Q := vc_ok (cuts := [42, 53, 98, 100, 103, 114, 128, 193, 199, 211, 214, 289, 291, 357, 363, 386, 399, 412, 424, 437, 450, 464, 478, 490, 501, 520, 530, 540, 551, 561, 572, 583, 596, 607, 617, 627, 640, 651, 662, 673, 686, 698, 710, 722, 735, 747, 763]) 600 490 _ _ _ _ h
set_option maxRecDepth 100000 in
theorem lb116_501 {S : (Nat → Int32) × Nat} {t : qT} {D : qD} {Q : Int → qT → qD → Prop} {l8 l9 : Int} {o10 o11 : Option qV} (h :
chk (qR (D 31 4))
(if (D 31 4) = 0 then
  (wp S 116 520 [some qx, some (qs 0), some (qs 28), some (qs 29), some (qs 30), some (qs 31), some (qs 32), some (qs 33), some (qi l8), some (qi l9), o10, o11] [] t D Q)
  else
  (wp S 70 0 [some (qs 0), some (qi 0), some (qi 12), none] [] t D (fun x1 t1 D1 =>
      (chk (qR x1)
        (if x1 = (-102) then
          (wp S 116 520 [some qx, some (qs 0), some (qs 28), some (qs 29), some (qs 30), some (qs 31), some (qs 32), some (qs 33), some (qi l8), some (qi l9), o10, o11] [] t1 D1 Q)
          else
          (wp S 116 763 [some qx, some (qs 0), some (qs 28), some (qs 29), some (qs 30), some (qs 31), some (qs 32), some (qs 33), some (qi l8), some (qi l9), o10, o11] [] t1 D1 Q))))))) : wp S 116 501 [some qx, some (qs 0), some (qs 28), some (qs 29), some (qs 30), some (qs 31), some (qs 32), some (qs 33), some (qi l8), some (qi l9), o10, o11] [] t D Q := vc_ok (cuts := [42, 53, 98, 100, 103, 114, 128, 193, 199, 211, 214, 289, 291, 357, 363, 386, 399, 412, 424, 437, 450, 464, 478, 490, 501, 520, 530, 540, 551, 561, 572, 583, 596, 607, 617, 627, 640, 651, 662, 673, 686, 698, 710, 722, 735, 747, 763]) 600 501 _ _ _ _ h
set_option maxRecDepth 100000 in
theorem lb116_520 {S : (Nat → Int32) × Nat} {t : qT} {D : qD} {Q : Int → qT → qD → Prop} {l8 l9 : Int} {o10 o11 : Option qV} (h :
wp S 71 0 [some (qs 0), some (qi 4)] [] t D (fun x1 t1 D1 =>
  (chk (qR x1)
    (if x1 = (-101) then
      (wp S 116 530 [some qx, some (qs 0), some (qs 28), some (qs 29), some (qs 30), some (qs 31), some (qs 32), some (qs 33), some (qi l8), some (qi l9), o10, o11] [] t1 D1 Q)
      else
      (wp S 116 763 [some qx, some (qs 0), some (qs 28), some (qs 29), some (qs 30), some (qs 31), some (qs 32), some (qs 33), some (qi l8), some (qi l9), o10, o11] [] t1 D1 Q))))) : wp S 116 520 [some qx, some (qs 0), some (qs 28), some (qs 29), some (qs 30), some (qs 31), some (qs 32), some (qs 33), some (qi l8), some (qi l9), o10, o11] [] t D Q := vc_ok (cuts := [42, 53, 98, 100, 103, 114, 128, 193, 199, 211, 214, 289, 291, 357, 363, 386, 399, 412, 424, 437, 450, 464, 478, 490, 501, 520, 530, 540, 551, 561, 572, 583, 596, 607, 617, 627, 640, 651, 662, 673, 686, 698, 710, 722, 735, 747, 763]) 600 520 _ _ _ _ h
set_option maxRecDepth 100000 in
theorem lb116_530 {S : (Nat → Int32) × Nat} {t : qT} {D : qD} {Q : Int → qT → qD → Prop} {l8 l9 : Int} {o10 o11 : Option qV} (h :
wp S 71 0 [some (qs 0), some (qi (-1))] [] t D (fun x1 t1 D1 =>
  (chk (qR x1)
    (if x1 = (-101) then
      (wp S 116 540 [some qx, some (qs 0), some (qs 28), some (qs 29), some (qs 30), some (qs 31), some (qs 32), some (qs 33), some (qi l8), some (qi l9), o10, o11] [] t1 D1 Q)
      else
      (wp S 116 763 [some qx, some (qs 0), some (qs 28), some (qs 29), some (qs 30), some (qs 31), some (qs 32), some (qs 33), some (qi l8), some (qi l9), o10, o11] [] t1 D1 Q))))) : wp S 116 530 [some qx, some (qs 0), some (qs 28), some (qs 29), some (qs 30), some (qs 31), some (qs 32), some (qs 33), some (qi l8), some (qi l9), o10, o11] [] t D Q := vc_ok (cuts := [42, 53, 98, 100, 103, 114, 128, 193, 199, 211, 214, 289, 291, 357, 363, 386, 399, 412, 424, 437, 450, 464, 478, 490, 501, 520, 530, 540, 551, 561, 572, 583, 596, 607, 617, 627, 640, 651, 662, 673, 686, 698, 710, 722, 735, 747, 763]) 600 530 _ _ _ _ h
set_option maxRecDepth 100000 in
theorem lb116_540 {S : (Nat → Int32) × Nat} {t : qT} {D : qD} {Q : Int → qT → qD → Prop} {l8 l9 : Int} {o10 o11 : Option qV} (h :
wp S 72 0 [some (qs 0), some (qi l9)] [] t D (fun x1 t1 D1 =>
  (chk (qR x1)
    (if x1 = (-101) then
      (wp S 116 551 [some qx, some (qs 0), some (qs 28), some (qs 29), some (qs 30), some (qs 31), some (qs 32), some (qs 33), some (qi l8), some (qi l9), o10, o11] [] t1 D1 Q)
      else
      (wp S 116 763 [some qx, some (qs 0), some (qs 28), some (qs 29), some (qs 30), some (qs 31), some (qs 32), some (qs 33), some (qi l8), some (qi l9), o10, o11] [] t1 D1 Q))))) : wp S 116 540 [some qx, some (qs 0), some (qs 28), some (qs 29), some (qs 30), some (qs 31), some (qs 32), some (qs 33), some (qi l8), some (qi l9), o10, o11] [] t D Q := vc_ok (cuts := [42, 53, 98, 100, 103, 114, 128, 193, 199, 211, 214, 289, 291, 357, 363, 386, 399, 412, 424, 437, 450, 464, 478, 490, 501, 520, 530, 540, 551, 561, 572, 583, 596, 607, 617, 627, 640, 651, 662, 673, 686, 698, 710, 722, 735, 747, 763]) 600 540 _ _ _ _ h
set_option maxRecDepth 100000 in
theorem lb116_551 {S : (Nat → Int32) × Nat} {t : qT} {D : qD} {Q : Int → qT → qD → Prop} {l8 l9 : Int} {o10 o11 : Option qV} (h :
wp S 73 0 [some (qs 0), some (qi 0), none] [] t D (fun x1 t1 D1 =>
  (chk (qR x1)
    (if x1 = (-102) then
      (wp S 116 561 [some qx, some (qs 0), some (qs 28), some (qs 29), some (qs 30), some (qs 31), some (qs 32), some (qs 33), some (qi l8), some (qi l9), o10, o11] [] t1 D1 Q)
      else
      (wp S 116 763 [some qx, some (qs 0), some (qs 28), some (qs 29), some (qs 30), some (qs 31), some (qs 32), some (qs 33), some (qi l8), some (qi l9), o10, o11] [] t1 D1 Q))))) : wp S 116 551 [some qx, some (qs 0), some (qs 28), some (qs 29), some (qs 30), some (qs 31), some (qs 32), some (qs 33), some (qi l8), some (qi l9), o10, o11] [] t D Q := vc_ok (cuts := [42, 53, 98, 100, 103, 114, 128, 193, 199, 211, 214, 289, 291, 357, 363, 386, 399, 412, 424, 437, 450, 464, 478, 490, 501, 520, 530, 540, 551, 561, 572, 583, 596, 607, 617, 627, 640, 651, 662, 673, 686, 698, 710, 722, 735, 747, 763]) 600 551 _ _ _ _ h
set_option maxRecDepth 100000 in
theorem lb116_561 {S : (Nat → Int32) × Nat} {t : qT} {D : qD} {Q : Int → qT → qD → Prop} {l8 l9 : Int} {o10 o11 : Option qV} (h :
wp S 73 0 [some (qs 0), some (qi 10), none] [] t D (fun x1 t1 D1 =>
  (chk (qR x1)
    (if x1 = (-102) then
      (wp S 116 572 [some qx, some (qs 0), some (qs 28), some (qs 29), some (qs 30), some (qs 31), some (qs 32), some (qs 33), some (qi l8), some (qi l9), o10, o11] [] t1 D1 Q)
      else
      (wp S 116 763 [some qx, some (qs 0), some (qs 28), some (qs 29), some (qs 30), some (qs 31), some (qs 32), some (qs 33), some (qi l8), some (qi l9), o10, o11] [] t1 D1 Q))))) : wp S 116 561 [some qx, some (qs 0), some (qs 28), some (qs 29), some (qs 30), some (qs 31), some (qs 32), some (qs 33), some (qi l8), some (qi l9), o10, o11] [] t D Q := vc_ok (cuts := [42, 53, 98, 100, 103, 114, 128, 193, 199, 211, 214, 289, 291, 357, 363, 386, 399, 412, 424, 437, 450, 464, 478, 490, 501, 520, 530, 540, 551, 561, 572, 583, 596, 607, 617, 627, 640, 651, 662, 673, 686, 698, 710, 722, 735, 747, 763]) 600 561 _ _ _ _ h
set_option maxRecDepth 100000 in
theorem lb116_572 {S : (Nat → Int32) × Nat} {t : qT} {D : qD} {Q : Int → qT → qD → Prop} {l8 l9 : Int} {o10 o11 : Option qV} (h :
wp S 74 0 [some (qs 0), some (qi 4), some (qi 0), none] [] t D (fun x1 t1 D1 =>
  (chk (qR x1)
    (if x1 = (-101) then
      (wp S 116 583 [some qx, some (qs 0), some (qs 28), some (qs 29), some (qs 30), some (qs 31), some (qs 32), some (qs 33), some (qi l8), some (qi l9), o10, o11] [] t1 D1 Q)
      else
      (wp S 116 763 [some qx, some (qs 0), some (qs 28), some (qs 29), some (qs 30), some (qs 31), some (qs 32), some (qs 33), some (qi l8), some (qi l9), o10, o11] [] t1 D1 Q))))) : wp S 116 572 [some qx, some (qs 0), some (qs 28), some (qs 29), some (qs 30), some (qs 31), some (qs 32), some (qs 33), some (qi l8), some (qi l9), o10, o11] [] t D Q := vc_ok (cuts := [42, 53, 98, 100, 103, 114, 128, 193, 199, 211, 214, 289, 291, 357, 363, 386, 399, 412, 424, 437, 450, 464, 478, 490, 501, 520, 530, 540, 551, 561, 572, 583, 596, 607, 617, 627, 640, 651, 662, 673, 686, 698, 710, 722, 735, 747, 763]) 600 572 _ _ _ _ h
set_option maxRecDepth 100000 in
theorem lb116_583 {S : (Nat → Int32) × Nat} {t : qT} {D : qD} {Q : Int → qT → qD → Prop} {l8 l9 : Int} {o10 o11 : Option qV} (h :
wp S 74 0 [some (qs 0), some (qi 0), some (qi 1000), none] [] t D (fun x1 t1 D1 =>
  (chk (qR x1)
    (if x1 = (-102) then
      (wp S 116 596 [some qx, some (qs 0), some (qs 28), some (qs 29), some (qs 30), some (qs 31), some (qs 32), some (qs 33), some (qi l8), some (qi l9), o10, o11] [] t1 D1 Q)
      else
      (wp S 116 763 [some qx, some (qs 0), some (qs 28), some (qs 29), some (qs 30), some (qs 31), some (qs 32), some (qs 33), some (qi l8), some (qi l9), o10, o11] [] t1 D1 Q))))) : wp S 116 583 [some qx, some (qs 0), some (qs 28), some (qs 29), some (qs 30), some (qs 31), some (qs 32), some (qs 33), some (qi l8), some (qi l9), o10, o11] [] t D Q := vc_ok (cuts := [42, 53, 98, 100, 103, 114, 128, 193, 199, 211, 214, 289, 291, 357, 363, 386, 399, 412, 424, 437, 450, 464, 478, 490, 501, 520, 530, 540, 551, 561, 572, 583, 596, 607, 617, 627, 640, 651, 662, 673, 686, 698, 710, 722, 735, 747, 763]) 600 583 _ _ _ _ h
set_option maxRecDepth 100000 in
theorem lb116_596 {S : (Nat → Int32) × Nat} {t : qT} {D : qD} {Q : Int → qT → qD → Prop} {l8 l9 : Int} {o10 o11 : Option qV} (h :
wp S 74 0 [some (qs 0), some (qi 0), some (qi (-1)), none] [] t D (fun x1 t1 D1 =>
  (chk (qR x1)
    (if x1 = (-102) then
      (wp S 116 607 [some qx, some (qs 0), some (qs 28), some (qs 29), some (qs 30), some (qs 31), some (qs 32), some (qs 33), some (qi l8), some (qi l9), o10, o11] [] t1 D1 Q)
      else
      (wp S 116 763 [some qx, some (qs 0), some (qs 28), some (qs 29), some (qs 30), some (qs 31), some (qs 32), some (qs 33), some (qi l8), some (qi l9), o10, o11] [] t1 D1 Q))))) : wp S 116 596 [some qx, some (qs 0), some (qs 28), some (qs 29), some (qs 30), some (qs 31), some (qs 32), some (qs 33), some (qi l8), some (qi l9), o10, o11] [] t D Q := vc_ok (cuts := [42, 53, 98, 100, 103, 114, 128, 193, 199, 211, 214, 289, 291, 357, 363, 386, 399, 412, 424, 437, 450, 464, 478, 490, 501, 520, 530, 540, 551, 561, 572, 583, 596, 607, 617, 627, 640, 651, 662, 673, 686, 698, 710, 722, 735, 747, 763]) 600 596 _ _ _ _ h
set_option maxRecDepth 100000 in
theorem lb116_607 {S : (Nat → Int32) × Nat} {t : qT} {D : qD} {Q : Int → qT → qD → Prop} {l8 l9 : Int} {o10 o11 : Option qV} (h :
wp S 76 0 [some (qs 0), some (qi 5), none] [] t D (fun x1 t1 D1 =>
  (chk (qR x1)
    (if x1 = (-102) then
      (wp S 116 617 [some qx, some (qs 0), some (qs 28), some (qs 29), some (qs 30), some (qs 31), some (qs 32), some (qs 33), some (qi l8), some (qi l9), o10, o11] [] t1 D1 Q)
      else
      (wp S 116 763 [some qx, some (qs 0), some (qs 28), some (qs 29), some (qs 30), some (qs 31), some (qs 32), some (qs 33), some (qi l8), some (qi l9), o10, o11] [] t1 D1 Q))))) : wp S 116 607 [some qx, some (qs 0), some (qs 28), some (qs 29), some (qs 30), some (qs 31), some (qs 32), some (qs 33), some (qi l8), some (qi l9), o10, o11] [] t D Q := vc_ok (cuts := [42, 53, 98, 100, 103, 114, 128, 193, 199, 211, 214, 289, 291, 357, 363, 386, 399, 412, 424, 437, 450, 464, 478, 490, 501, 520, 530, 540, 551, 561, 572, 583, 596, 607, 617, 627, 640, 651, 662, 673, 686, 698, 710, 722, 735, 747, 763]) 600 607 _ _ _ _ h
set_option maxRecDepth 100000 in
theorem lb116_617 {S : (Nat → Int32) × Nat} {t : qT} {D : qD} {Q : Int → qT → qD → Prop} {l8 l9 : Int} {o10 o11 : Option qV} (h :
wp S 76 0 [some (qs 0), some (qi (-1)), none] [] t D (fun x1 t1 D1 =>
  (chk (qR x1)
    (if x1 = (-102) then
      (wp S 116 627 [some qx, some (qs 0), some (qs 28), some (qs 29), some (qs 30), some (qs 31), some (qs 32), some (qs 33), some (qi l8), some (qi l9), o10, o11] [] t1 D1 Q)
      else
      (wp S 116 763 [some qx, some (qs 0), some (qs 28), some (qs 29), some (qs 30), some (qs 31), some (qs 32), some (qs 33), some (qi l8), some (qi l9), o10, o11] [] t1 D1 Q))))) : wp S 116 617 [some qx, some (qs 0), some (qs 28), some (qs 29), some (qs 30), some (qs 31), some (qs 32), some (qs 33), some (qi l8), some (qi l9), o10, o11] [] t D Q := vc_ok (cuts := [42, 53, 98, 100, 103, 114, 128, 193, 199, 211, 214, 289, 291, 357, 363, 386, 399, 412, 424, 437, 450, 464, 478, 490, 501, 520, 530, 540, 551, 561, 572, 583, 596, 607, 617, 627, 640, 651, 662, 673, 686, 698, 710, 722, 735, 747, 763]) 600 617 _ _ _ _ h
set_option maxRecDepth 100000 in
theorem lb116_627 {S : (Nat → Int32) × Nat} {t : qT} {D : qD} {Q : Int → qT → qD → Prop} {l8 l9 : Int} {o10 o11 : Option qV} (h :
wp S 77 0 [some (qs 0), some (qi l9), some (qi 0), some (qi 0), none] [] t D (fun x1 t1 D1 =>
  (chk (qR x1)
    (if x1 = (-101) then
      (wp S 116 640 [some qx, some (qs 0), some (qs 28), some (qs 29), some (qs 30), some (qs 31), some (qs 32), some (qs 33), some (qi l8), some (qi l9), o10, o11] [] t1 D1 Q)
      else
      (wp S 116 763 [some qx, some (qs 0), some (qs 28), some (qs 29), some (qs 30), some (qs 31), some (qs 32), some (qs 33), some (qi l8), some (qi l9), o10, o11] [] t1 D1 Q))))) : wp S 116 627 [some qx, some (qs 0), some (qs 28), some (qs 29), some (qs 30), some (qs 31), some (qs 32), some (qs 33), some (qi l8), some (qi l9), o10, o11] [] t D Q := vc_ok (cuts := [42, 53, 98, 100, 103, 114, 128, 193, 199, 211, 214, 289, 291, 357, 363, 386, 399, 412, 424, 437, 450, 464, 478, 490, 501, 520, 530, 540, 551, 561, 572, 583, 596, 607, 617, 627, 640, 651, 662, 673, 686, 698, 710, 722, 735, 747, 763]) 600 627 _ _ _ _ h
set_option maxRecDepth 100000 in
theorem lb116_640 {S : (Nat → Int32) × Nat} {t : qT} {D : qD} {Q : Int → qT → qD → Prop} {l8 l9 : Int} {o10 o11 : Option qV} (h :
wp S 78 0 [some (qs 0), some (qi 5), some (qi 0), none] [] t D (fun x1 t1 D1 =>
  (chk (qR x1)
    (if x1 = (-102) then
      (wp S 116 651 [some qx, some (qs 0), some (qs 28), some (qs 29), some (qs 30), some (qs 31), some (qs 32), some (qs 33), some (qi l8), some (qi l9), o10, o11] [] t1 D1 Q)
      else
      (wp S 116 763 [some qx, some (qs 0), some (qs 28), some (qs 29), some (qs 30), some (qs 31), some (qs 32), some (qs 33), some (qi l8), some (qi l9), o10, o11] [] t1 D1 Q))))) : wp S 116 640 [some qx, some (qs 0), some (qs 28), some (qs 29), some (qs 30), some (qs 31), some (qs 32), some (qs 33), some (qi l8), some (qi l9), o10, o11] [] t D Q := vc_ok (cuts := [42, 53, 98, 100, 103, 114, 128, 193, 199, 211, 214, 289, 291, 357, 363, 386, 399, 412, 424, 437, 450, 464, 478, 490, 501, 520, 530, 540, 551, 561, 572, 583, 596, 607, 617, 627, 640, 651, 662, 673, 686, 698, 710, 722, 735, 747, 763]) 600 640 _ _ _ _ h
set_option maxRecDepth 100000 in
theorem lb116_651 {S : (Nat → Int32) × Nat} {t : qT} {D : qD} {Q : Int → qT → qD → Prop} {l8 l9 : Int} {o10 o11 : Option qV} (h :
wp S 78 0 [some (qs 0), some (qi 0), some (qi 3), none] [] t D (fun x1 t1 D1 =>
  (chk (qR x1)
    (if x1 = (-102) then
      (wp S 116 662 [some qx, some (qs 0), some (qs 28), some (qs 29), some (qs 30), some (qs 31), some (qs 32), some (qs 33), some (qi l8), some (qi l9), o10, o11] [] t1 D1 Q)
      else
      (wp S 116 763 [some qx, some (qs 0), some (qs 28), some (qs 29), some (qs 30), some (qs 31), some (qs 32), some (qs 33), some (qi l8), some (qi l9), o10, o11] [] t1 D1 Q))))) : wp S 116 651 [some qx, some (qs 0), some (qs 28), some (qs 29), some (qs 30), some (qs 31), some (qs 32), some (qs 33), some (qi l8), some (qi l9), o10, o11] [] t D Q := vc_ok (cuts := [42, 53, 98, 100, 103, 114, 128, 193, 199, 211, 214, 289, 291, 357, 363, 386, 399, 412, 424, 437, 450, 464, 478, 490, 501, 520, 530, 540, 551, 561, 572, 583, 596, 607, 617, 627, 640, 651, 662, 673, 686, 698, 710, 722, 735, 747, 763]) 600 651 _ _ _ _ h
set_option maxRecDepth 100000 in
theorem lb116_662 {S : (Nat → Int32) × Nat} {t : qT} {D : qD} {Q : Int → qT → qD → Prop} {l8 l9 : Int} {o10 o11 : Option qV} (h :
wp S 80 0 [some (qs 0), some (qi (-2))] [] t D (fun x1 t1 D1 =>
  (chk (qR x1)
    (if x1 = (-101) then
      (wp S 116 673 [some qx, some (qs 0), some (qs 28), some (qs 29), some (qs 30), some (qs 31), some (qs 32), some (qs 33), some (qi l8), some (qi l9), o10, o11] [] t1 D1 Q)
      else
      (wp S 116 763 [some qx, some (qs 0), some (qs 28), some (qs 29), some (qs 30), some (qs 31), some (qs 32), some (qs 33), some (qi l8), some (qi l9), o10, o11] [] t1 D1 Q))))) : wp S 116 662 [some qx, some (qs 0), some (qs 28), some (qs 29), some (qs 30), some (qs 31), some (qs 32), some (qs 33), some (qi l8), some (qi l9), o10, o11] [] t D Q := vc_ok (cuts := [42, 53, 98, 100, 103, 114, 128, 193, 199, 211, 214, 289, 291, 357, 363, 386, 399, 412, 424, 437, 450, 464, 478, 490, 501, 520, 530, 540, 551, 561, 572, 583, 596, 607, 617, 627, 640, 651, 662, 673, 686, 698, 710, 722, 735, 747, 763]) 600 662 _ _ _ _ h
set_option maxRecDepth 100000 in
theorem lb116_673 {S : (Nat → Int32) × Nat} {t : qT} {D : qD} {Q : Int → qT → qD → Prop} {l8 l9 : Int} {o10 o11 : Option qV} (h :
wp S 80 0 [some (qs 0), some (qi (D 33 2))] [] t D (fun x1 t1 D1 =>
  (chk (qR x1)
    (if x1 = (-101) then
      (wp S 116 686 [some qx, some (qs 0), some (qs 28), some (qs 29), some (qs 30), some (qs 31), some (qs 32), some (qs 33), some (qi l8), some (qi l9), o10, o11] [] t1 D1 Q)
      else
      (wp S 116 763 [some qx, some (qs 0), some (qs 28), some (qs 29), some (qs 30), some (qs 31), some (qs 32), some (qs 33), some (qi l8), some (qi l9), o10, o11] [] t1 D1 Q))))) : wp S 116 673 [some qx, some (qs 0), some (qs 28), some (qs 29), some (qs 30), some (qs 31), some (qs 32), some (qs 33), some (qi l8), some (qi l9), o10, o11] [] t D Q := vc_ok (cuts := [42, 53, 98, 100, 103, 114, 128, 193, 199, 211, 214, 289, 291, 357, 363, 386, 399, 412, 424, 437, 450, 464, 478, 490, 501, 520, 530, 540, 551, 561, 572, 583, 596, 607, 617, 627, 640, 651, 662, 673, 686, 698, 710, 722, 735, 747, 763]) 600 673 _ _ _ _ h
set_option maxRecDepth 100000 in
theorem lb116_686 {S : (Nat → Int32) × Nat} {t : qT} {D : qD} {Q : Int → qT → qD → Prop} {l8 l9 : Int} {o10 o11 : Option qV} (h :
wp S 81 0 [some (qs 0), some (qi l9), some (qi 0), none, none] [] t D (fun x1 t1 D1 =>
  (chk (qR x1)
    (if x1 = (-101) then
      (wp S 116 698 [some qx, some (qs 0), some (qs 28), some (qs 29), some (qs 30), some (qs 31), some (qs 32), some (qs 33), some (qi l8), some (qi l9), o10, o11] [] t1 D1 Q)
      else
      (wp S 116 763 [some qx, some (qs 0), some (qs 28), some (qs 29), some (qs 30), some (qs 31), some (qs 32), some (qs 33), some (qi l8), some (qi l9), o10, o11] [] t1 D1 Q))))) : wp S 116 686 [some qx, some (qs 0), some (qs 28), some (qs 29), some (qs 30), some (qs 31), some (qs 32), some (qs 33), some (qi l8), some (qi l9), o10, o11] [] t D Q := vc_ok (cuts := [42, 53, 98, 100, 103, 114, 128, 193, 199, 211, 214, 289, 291, 357, 363, 386, 399, 412, 424, 437, 450, 464, 478, 490, 501, 520, 530, 540, 551, 561, 572, 583, 596, 607, 617, 627, 640, 651, 662, 673, 686, 698, 710, 722, 735, 747, 763]) 600 686 _ _ _ _ h
set_option maxRecDepth 100000 in
theorem lb116_698 {S : (Nat → Int32) × Nat} {t : qT} {D : qD} {Q : Int → qT → qD → Prop} {l8 l9 : Int} {o10 o11 : Option qV} (h :
wp S 81 0 [some (qs 0), some (qi 0), some (qi l9), none, none] [] t D (fun x1 t1 D1 =>
  (chk (qR x1)
    (if x1 = (-101) then
      (wp S 116 710 [some qx, some (qs 0), some (qs 28), some (qs 29), some (qs 30), some (qs 31), some (qs 32), some (qs 33), some (qi l8), some (qi l9), o10, o11] [] t1 D1 Q)
      else
      (wp S 116 763 [some qx, some (qs 0), some (qs 28), some (qs 29), some (qs 30), some (qs 31), some (qs 32), some (qs 33), some (qi l8), some (qi l9), o10, o11] [] t1 D1 Q))))) : wp S 116 698 [some qx, some (qs 0), some (qs 28), some (qs 29), some (qs 30), some (qs 31), some (qs 32), some (qs 33), some (qi l8), some (qi l9), o10, o11] [] t D Q := vc_ok (cuts := [42, 53, 98, 100, 103, 114, 128, 193, 199, 211, 214, 289, 291, 357, 363, 386, 399, 412, 424, 437, 450, 464, 478, 490, 501, 520, 530, 540, 551, 561, 572, 583, 596, 607, 617, 627, 640, 651, 662, 673, 686, 698, 710, 722, 735, 747, 763]) 600 698 _ _ _ _ h
set_option maxRecDepth 100000 in
theorem lb116_710 {S : (Nat → Int32) × Nat} {t : qT} {D : qD} {Q : Int → qT → qD → Prop} {l8 l9 : Int} {o10 o11 : Option qV} (h :
wp S 82 0 [some (qs 0), some (qi 0), some (qi 0), some (qi 0), none, none, none, none] [] t D (fun x1 t1 D1 =>
  (chk (qR x1)
    (if x1 = (-102) then
      (wp S 116 722 [some qx, some (qs 0), some (qs 28), some (qs 29), some (qs 30), some (qs 31), some (qs 32), some (qs 33), some (qi l8), some (qi l9), o10, o11] [] t1 D1 Q)
      else
      (wp S 116 763 [some qx, some (qs 0), some (qs 28), some (qs 29), some (qs 30), some (qs 31), some (qs 32), some (qs 33), some (qi l8), some (qi l9), o10, o11] [] t1 D1 Q))))) : wp S 116 710 [some qx, some (qs 0), some (qs 28), some (qs 29), some (qs 30), some (qs 31), some (qs 32), some (qs 33), some (qi l8), some (qi l9), o10, o11] [] t D Q := vc_ok (cuts := [42, 53, 98, 100, 103, 114, 128, 193, 199, 211, 214, 289, 291, 357, 363, 386, 399, 412, 424, 437, 450, 464, 478, 490, 501, 520, 530, 540, 551, 561, 572, 583, 596, 607, 617, 627, 640, 651, 662, 673, 686, 698, 710, 722, 735, 747, 763]) 600 710 _ _ _ _ h
set_option maxRecDepth 100000 in
theorem lb116_722 {S : (Nat → Int32) × Nat} {t : qT} {D : qD} {Q : Int → qT → qD → Prop} {l8 l9 : Int} {o10 o11 : Option qV} (h :
wp S 82 0 [some (qs 0), some (qi 100), some (qi 0), some (qi 0), none, none, none, none] [] t D (fun x1 t1 D1 =>
  (chk (qR x1)
    (if x1 = (-102) then
      (wp S 116 735 [some qx, some (qs 0), some (qs 28), some (qs 29), some (qs 30), some (qs 31), some (qs 32), some (qs 33), some (qi l8), some (qi l9), o10, o11] [] t1 D1 Q)
      else
      (wp S 116 763 [some qx, some (qs 0), some (qs 28), some (qs 29), some (qs 30), some (qs 31), some (qs 32), some (qs 33), some (qi l8), some (qi l9), o10, o11] [] t1 D1 Q))))) : wp S 116 722 [some qx, some (qs 0), some (qs 28), some (qs 29), some (qs 30), some (qs 31), some (qs 32), some (qs 33), some (qi l8), some (qi l9), o10, o11] [] t D Q := vc_ok (cuts := [42, 53, 98, 100, 103, 114, 128, 193, 199, 211, 214, 289, 291, 357, 363, 386, 399, 412, 424, 437, 450, 464, 478, 490, 501, 520, 530, 540, 551, 561, 572, 583, 596, 607, 617, 627, 640, 651, 662, 673, 686, 698, 710, 722, 735, 747, 763]) 600 722 _ _ _ _ h
set_option maxRecDepth 100000 in
theorem lb116_735 {S : (Nat → Int32) × Nat} {t : qT} {D : qD} {Q : Int → qT → qD → Prop} {l8 l9 : Int} {o10 o11 : Option qV} (h :
wp S 82 0 [some (qs 0), some (qi 1), some (qi (-1)), some (qi 0), none, none, none, none] [] t D (fun x1 t1 D1 =>
  (chk (qR x1)
    (if x1 = (-102) then
      (wp S 116 747 [some qx, some (qs 0), some (qs 28), some (qs 29), some (qs 30), some (qs 31), some (qs 32), some (qs 33), some (qi l8), some (qi l9), o10, o11] [] t1 D1 Q)
      else
      (wp S 116 763 [some qx, some (qs 0), some (qs 28), some (qs 29), some (qs 30), some (qs 31), some (qs 32), some (qs 33), some (qi l8), some (qi l9), o10, o11] [] t1 D1 Q))))) : wp S 116 735 [some qx, some (qs 0), some (qs 28), some (qs 29), some (qs 30), some (qs 31), some (qs 32), some (qs 33), some (qi l8), some (qi l9), o10, o11] [] t D Q := vc_ok (cuts := [42, 53, 98, 100, 103, 114, 128, 193, 199, 211, 214, 289, 291, 357, 363, 386, 399, 412, 424, 437, 450, 464, 478, 490, 501, 520, 530, 540, 551, 561, 572, 583, 596, 607, 617, 627, 640, 651, 662, 673, 686, 698, 710, 722, 735, 747, 763]) 600 735 _ _ _ _ h
set_option maxRecDepth 100000 in
theorem lb116_747 {S : (Nat → Int32) × Nat} {t : qT} {D : qD} {Q : Int → qT → qD → Prop} {l8 l9 : Int} {o10 o11 : Option qV} (h :
wp S 82 0 [some (qs 0), some (qi 1), some (qi 0), some (qi 3), none, none, none, none] [] t D (fun x1 t1 D1 =>
  (chk (qR x1)
    (if x1 = (-102) then
      (Q 1 t1 D1)
      else
      (wp S 116 763 [some qx, some (qs 0), some (qs 28), some (qs 29), some (qs 30), some (qs 31), some (qs 32), some (qs 33), some (qi l8), some (qi l9), o10, o11] [] t1 D1 Q))))) : wp S 116 747 [some qx, some (qs 0), some (qs 28), some (qs 29), some (qs 30), some (qs 31), some (qs 32), some (qs 33), some (qi l8), some (qi l9), o10, o11] [] t D Q := vc_ok (cuts := [42, 53, 98, 100, 103, 114, 128, 193, 199, 211, 214, 289, 291, 357, 363, 386, 399, 412, 424, 437, 450, 464, 478, 490, 501, 520, 530, 540, 551, 561, 572, 583, 596, 607, 617, 627, 640, 651, 662, 673, 686, 698, 710, 722, 735, 747, 763]) 600 747 _ _ _ _ h
set_option maxRecDepth 100000 in
theorem lb116_763 {S : (Nat → Int32) × Nat} {t : qT} {D : qD} {Q : Int → qT → qD → Prop} {l8 l9 : Int} {o10 o11 : Option qV} (h :
Q 0 t D) : wp S 116 763 [some qx, some (qs 0), some (qs 28), some (qs 29), some (qs 30), some (qs 31), some (qs 32), some (qs 33), some (qi l8), some (qi l9), o10, o11] [] t D Q := vc_ok (cuts := [42, 53, 98, 100, 103, 114, 128, 193, 199, 211, 214, 289, 291, 357, 363, 386, 399, 412, 424, 437, 450, 464, 478, 490, 501, 520, 530, 540, 551, 561, 572, 583, 596, 607, 617, 627, 640, 651, 662, 673, 686, 698, 710, 722, 735, 747, 763]) 600 763 _ _ _ _ h
