/-! blocks, written by wip/whole/mkblk.py: what each stretch of a method asks -/
/-! 0 X0_init -/
set_option maxRecDepth 100000 in
theorem b0_0 {S : (Nat → Int32) × Nat} {t : qT} {D : qD} {Q : Int → qT → qD → Prop} {a : Nat} (h :
chk ((t.1 a).1 ≠ 8 ∧ 0 ≤ 8)
(chk ((t.1 a).1 = 0)
  (wp S 0 9 [some (qr a)] [] t (up D a 0 0) Q))) : wp S 0 0 [some (qr a)] [] t D Q := vc_ok (cuts := [9, 18, 26, 33, 41]) 600 0 _ _ _ _ h
set_option maxRecDepth 100000 in
theorem b0_9 {S : (Nat → Int32) × Nat} {t : qT} {D : qD} {Q : Int → qT → qD → Prop} {a : Nat} (h :
chk (((nwT t.1 t.2.2.1 (10, 180)) a).1 = 0)
(chk (qsP a 1 = none)
  (wp S 0 18 [some (qr a)] [] ((nwT t.1 t.2.2.1 (10, 180)), (upP (nwP t.2.1 t.2.2.1) a 1 t.2.2.1), ((t.2.2.1 + 1), (t.2.2.2 + 180))) (upr D t.2.2.1 (fun _ => 0)) Q))) : wp S 0 9 [some (qr a)] [] t D Q := vc_ok (cuts := [9, 18, 26, 33, 41]) 600 9 _ _ _ _ h
set_option maxRecDepth 100000 in
theorem b0_18 {S : (Nat → Int32) × Nat} {t : qT} {D : qD} {Q : Int → qT → qD → Prop} {a : Nat} (h :
chk (((nwT t.1 t.2.2.1 (10, 72)) a).1 = 0)
(chk (qsP a 2 = none)
  (wp S 0 26 [some (qr a)] [] ((nwT t.1 t.2.2.1 (10, 72)), (upP (nwP t.2.1 t.2.2.1) a 2 t.2.2.1), ((t.2.2.1 + 1), (t.2.2.2 + 72))) (upr D t.2.2.1 (fun _ => 0)) Q))) : wp S 0 18 [some (qr a)] [] t D Q := vc_ok (cuts := [9, 18, 26, 33, 41]) 600 18 _ _ _ _ h
set_option maxRecDepth 100000 in
theorem b0_26 {S : (Nat → Int32) × Nat} {t : qT} {D : qD} {Q : Int → qT → qD → Prop} {a : Nat} (h :
chk (((nwT t.1 t.2.2.1 (10, 3)) a).1 = 0)
(chk (qsP a 3 = none)
  (wp S 0 33 [some (qr a)] [] ((nwT t.1 t.2.2.1 (10, 3)), (upP (nwP t.2.1 t.2.2.1) a 3 t.2.2.1), ((t.2.2.1 + 1), (t.2.2.2 + 3))) (upr D t.2.2.1 (fun _ => 0)) Q))) : wp S 0 26 [some (qr a)] [] t D Q := vc_ok (cuts := [9, 18, 26, 33, 41]) 600 26 _ _ _ _ h
set_option maxRecDepth 100000 in
theorem b0_33 {S : (Nat → Int32) × Nat} {t : qT} {D : qD} {Q : Int → qT → qD → Prop} {a : Nat} (h :
chk (((nwT t.1 t.2.2.1 (10, 45)) a).1 = 0)
(chk (qsP a 4 = none)
  (wp S 0 41 [some (qr a)] [] ((nwT t.1 t.2.2.1 (10, 45)), (upP (nwP t.2.1 t.2.2.1) a 4 t.2.2.1), ((t.2.2.1 + 1), (t.2.2.2 + 45))) (upr D t.2.2.1 (fun _ => 0)) Q))) : wp S 0 33 [some (qr a)] [] t D Q := vc_ok (cuts := [9, 18, 26, 33, 41]) 600 33 _ _ _ _ h
set_option maxRecDepth 100000 in
theorem b0_41 {S : (Nat → Int32) × Nat} {t : qT} {D : qD} {Q : Int → qT → qD → Prop} {a : Nat} (h :
chk (((nwT t.1 t.2.2.1 (10, 3)) a).1 = 0)
(chk (qsP a 5 = none)
  (Q 0 ((nwT t.1 t.2.2.1 (10, 3)), (upP (nwP t.2.1 t.2.2.1) a 5 t.2.2.1), ((t.2.2.1 + 1), (t.2.2.2 + 3))) (upr D t.2.2.1 (fun _ => 0))))) : wp S 0 41 [some (qr a)] [] t D Q := vc_ok (cuts := [9, 18, 26, 33, 41]) 600 41 _ _ _ _ h
/-! 1 X0_rowPart -/
set_option maxRecDepth 100000 in
theorem b1_0 {S : (Nat → Int32) × Nat} {t : qT} {D : qD} {Q : Int → qT → qD → Prop} {l1 l2 l3 : Int} {a : Nat} (h :
chk ((t.1 a).1 = 0)
(chk ((t.1 (t.2.1 a 1)).1 = 10)
  (chk (0 ≤ ((((l1 * 10) + l2) * 6) + l3) ∧ ((((l1 * 10) + l2) * 6) + l3) < (t.1 (t.2.1 a 1)).2)
    (Q (D (t.2.1 a 1) ((((l1 * 10) + l2) * 6) + l3)) t D)))) : wp S 1 0 [some (qr a), some (qi l1), some (qi l2), some (qi l3)] [] t D Q := vc_ok (cuts := []) 600 0 _ _ _ _ h
/-! 2 X0_writeRowPart -/
set_option maxRecDepth 100000 in
theorem b2_0 {S : (Nat → Int32) × Nat} {t : qT} {D : qD} {Q : Int → qT → qD → Prop} {l1 l2 l3 l4 : Int} {a : Nat} (h :
chk ((t.1 a).1 = 0)
(chk ((t.1 (t.2.1 a 1)).1 = 10)
  (chk (0 ≤ ((((l1 * 10) + l2) * 6) + l3) ∧ ((((l1 * 10) + l2) * 6) + l3) < (t.1 (t.2.1 a 1)).2)
    (Q 0 t (up D (t.2.1 a 1) ((((l1 * 10) + l2) * 6) + l3) l4))))) : wp S 2 0 [some (qr a), some (qi l1), some (qi l2), some (qi l3), some (qi l4)] [] t D Q := vc_ok (cuts := []) 600 0 _ _ _ _ h
/-! 3 X0_padCount -/
set_option maxRecDepth 100000 in
theorem b3_0 {S : (Nat → Int32) × Nat} {t : qT} {D : qD} {Q : Int → qT → qD → Prop} {l1 : Int} {a : Nat} (h :
chk ((t.1 a).1 = 0)
(chk ((t.1 (t.2.1 a 5)).1 = 10)
  (chk (0 ≤ l1 ∧ l1 < (t.1 (t.2.1 a 5)).2)
    (Q (D (t.2.1 a 5) l1) t D)))) : wp S 3 0 [some (qr a), some (qi l1)] [] t D Q := vc_ok (cuts := []) 600 0 _ _ _ _ h
/-! 4 X0_writePadCount -/
set_option maxRecDepth 100000 in
theorem b4_0 {S : (Nat → Int32) × Nat} {t : qT} {D : qD} {Q : Int → qT → qD → Prop} {l1 l2 : Int} {a : Nat} (h :
chk ((t.1 a).1 = 0)
(chk ((t.1 (t.2.1 a 5)).1 = 10)
  (chk (0 ≤ l1 ∧ l1 < (t.1 (t.2.1 a 5)).2)
    (Q 0 t (up D (t.2.1 a 5) l1 l2))))) : wp S 4 0 [some (qr a), some (qi l1), some (qi l2)] [] t D Q := vc_ok (cuts := []) 600 0 _ _ _ _ h
/-! 5 X0_padPart -/
set_option maxRecDepth 100000 in
theorem b5_0 {S : (Nat → Int32) × Nat} {t : qT} {D : qD} {Q : Int → qT → qD → Prop} {l1 l2 l3 : Int} {a : Nat} (h :
chk ((t.1 a).1 = 0)
(chk ((t.1 (t.2.1 a 4)).1 = 10)
  (chk (0 ≤ ((((l1 * 3) + l2) * 5) + l3) ∧ ((((l1 * 3) + l2) * 5) + l3) < (t.1 (t.2.1 a 4)).2)
    (Q (D (t.2.1 a 4) ((((l1 * 3) + l2) * 5) + l3)) t D)))) : wp S 5 0 [some (qr a), some (qi l1), some (qi l2), some (qi l3)] [] t D Q := vc_ok (cuts := []) 600 0 _ _ _ _ h
/-! 6 X0_writePadPart -/
set_option maxRecDepth 100000 in
theorem b6_0 {S : (Nat → Int32) × Nat} {t : qT} {D : qD} {Q : Int → qT → qD → Prop} {l1 l2 l3 l4 : Int} {a : Nat} (h :
chk ((t.1 a).1 = 0)
(chk ((t.1 (t.2.1 a 4)).1 = 10)
  (chk (0 ≤ ((((l1 * 3) + l2) * 5) + l3) ∧ ((((l1 * 3) + l2) * 5) + l3) < (t.1 (t.2.1 a 4)).2)
    (Q 0 t (up D (t.2.1 a 4) ((((l1 * 3) + l2) * 5) + l3) l4))))) : wp S 6 0 [some (qr a), some (qi l1), some (qi l2), some (qi l3), some (qi l4)] [] t D Q := vc_ok (cuts := []) 600 0 _ _ _ _ h
/-! 7 X0_saveCount -/
set_option maxRecDepth 100000 in
theorem b7_0 {S : (Nat → Int32) × Nat} {t : qT} {D : qD} {Q : Int → qT → qD → Prop} {l1 : Int} {a : Nat} (h :
chk ((t.1 a).1 = 0)
(chk ((t.1 (t.2.1 a 3)).1 = 10)
  (chk (0 ≤ l1 ∧ l1 < (t.1 (t.2.1 a 3)).2)
    (Q (D (t.2.1 a 3) l1) t D)))) : wp S 7 0 [some (qr a), some (qi l1)] [] t D Q := vc_ok (cuts := []) 600 0 _ _ _ _ h
/-! 8 X0_saveAddress -/
set_option maxRecDepth 100000 in
theorem b8_0 {S : (Nat → Int32) × Nat} {t : qT} {D : qD} {Q : Int → qT → qD → Prop} {l1 l2 : Int} {a : Nat} (h :
chk ((t.1 a).1 = 0)
(chk ((t.1 (t.2.1 a 2)).1 = 10)
  (chk (0 ≤ (((l1 * 8) + l2) * 3) ∧ (((l1 * 8) + l2) * 3) < (t.1 (t.2.1 a 2)).2)
    (Q (D (t.2.1 a 2) (((l1 * 8) + l2) * 3)) t D)))) : wp S 8 0 [some (qr a), some (qi l1), some (qi l2)] [] t D Q := vc_ok (cuts := []) 600 0 _ _ _ _ h
/-! 9 X0_saveRegister -/
set_option maxRecDepth 100000 in
theorem b9_0 {S : (Nat → Int32) × Nat} {t : qT} {D : qD} {Q : Int → qT → qD → Prop} {l1 l2 : Int} {a : Nat} (h :
chk ((t.1 a).1 = 0)
(chk ((t.1 (t.2.1 a 2)).1 = 10)
  (chk (0 ≤ ((((l1 * 8) + l2) * 3) + 1) ∧ ((((l1 * 8) + l2) * 3) + 1) < (t.1 (t.2.1 a 2)).2)
    (Q (D (t.2.1 a 2) ((((l1 * 8) + l2) * 3) + 1)) t D)))) : wp S 9 0 [some (qr a), some (qi l1), some (qi l2)] [] t D Q := vc_ok (cuts := []) 600 0 _ _ _ _ h
/-! 10 X0_saveCell -/
set_option maxRecDepth 100000 in
theorem b10_0 {S : (Nat → Int32) × Nat} {t : qT} {D : qD} {Q : Int → qT → qD → Prop} {l1 l2 : Int} {a : Nat} (h :
chk ((t.1 a).1 = 0)
(chk ((t.1 (t.2.1 a 2)).1 = 10)
  (chk (0 ≤ ((((l1 * 8) + l2) * 3) + 2) ∧ ((((l1 * 8) + l2) * 3) + 2) < (t.1 (t.2.1 a 2)).2)
    (Q (D (t.2.1 a 2) ((((l1 * 8) + l2) * 3) + 2)) t D)))) : wp S 10 0 [some (qr a), some (qi l1), some (qi l2)] [] t D Q := vc_ok (cuts := []) 600 0 _ _ _ _ h
/-! 11 X0_addSave -/
set_option maxRecDepth 100000 in
theorem b11_0 {S : (Nat → Int32) × Nat} {t : qT} {D : qD} {Q : Int → qT → qD → Prop} {l1 l2 l3 l4 : Int} {a : Nat} (h :
chk ((t.1 a).1 = 0)
(chk ((t.1 (t.2.1 a 3)).1 = 10)
  (chk (0 ≤ l1 ∧ l1 < (t.1 (t.2.1 a 3)).2)
    (chk (qR (D (t.2.1 a 3) l1))
      (if (D (t.2.1 a 3) l1) < 8 then
        (chk ((t.1 a).1 = 0)
          (chk ((t.1 (t.2.1 a 3)).1 = 10)
            (chk (0 ≤ l1 ∧ l1 < (t.1 (t.2.1 a 3)).2)
              (chk ((t.1 a).1 = 0)
                (chk ((t.1 (t.2.1 a 2)).1 = 10)
                  (chk (0 ≤ (((l1 * 8) + (D (t.2.1 a 3) l1)) * 3) ∧ (((l1 * 8) + (D (t.2.1 a 3) l1)) * 3) < (t.1 (t.2.1 a 2)).2)
                    (chk ((t.1 a).1 = 0)
                      (chk ((t.1 (t.2.1 a 2)).1 = 10)
                        (chk (0 ≤ ((((l1 * 8) + (D (t.2.1 a 3) l1)) * 3) + 1) ∧ ((((l1 * 8) + (D (t.2.1 a 3) l1)) * 3) + 1) < (t.1 (t.2.1 a 2)).2)
                        (chk ((t.1 a).1 = 0)
                        (chk ((t.1 (t.2.1 a 2)).1 = 10)
                        (chk (0 ≤ ((((l1 * 8) + (D (t.2.1 a 3) l1)) * 3) + 2) ∧ ((((l1 * 8) + (D (t.2.1 a 3) l1)) * 3) + 2) < (t.1 (t.2.1 a 2)).2)
                        (chk ((t.1 a).1 = 0)
                        (chk ((t.1 (t.2.1 a 3)).1 = 10)
                        (chk (0 ≤ l1 ∧ l1 < (t.1 (t.2.1 a 3)).2)
                        (chk ((t.1 (t.2.1 a 3)).1 = 10)
                        (chk (0 ≤ l1 ∧ l1 < (t.1 (t.2.1 a 3)).2)
                        (Q 0 t (up (up (up (up D (t.2.1 a 2) (((l1 * 8) + (D (t.2.1 a 3) l1)) * 3) l2) (t.2.1 a 2) ((((l1 * 8) + (D (t.2.1 a 3) l1)) * 3) + 1) l3) (t.2.1 a 2) ((((l1 * 8) + (D (t.2.1 a 3) l1)) * 3) + 2) l4) (t.2.1 a 3) l1 (((up (up (up D (t.2.1 a 2) (((l1 * 8) + (D (t.2.1 a 3) l1)) * 3) l2) (t.2.1 a 2) ((((l1 * 8) + (D (t.2.1 a 3) l1)) * 3) + 1) l3) (t.2.1 a 2) ((((l1 * 8) + (D (t.2.1 a 3) l1)) * 3) + 2) l4) (t.2.1 a 3) l1) + 1))))))))))))))))))))
        else
        (Q 0 t D)))))) : wp S 11 0 [some (qr a), some (qi l1), some (qi l2), some (qi l3), some (qi l4), none] [] t D Q := vc_ok (cuts := []) 600 0 _ _ _ _ h
/-! 12 X0_countPads -/
set_option maxRecDepth 100000 in
theorem b12_0 {S : (Nat → Int32) × Nat} {t : qT} {D : qD} {Q : Int → qT → qD → Prop} {a : Nat} (h :
wp S 12 4 [some (qr a), some (qi 0), some (qi 0)] [] t D Q) : wp S 12 0 [some (qr a), none, none] [] t D Q := vc_ok (cuts := [4]) 600 0 _ _ _ _ h
set_option maxRecDepth 100000 in
theorem b12_4 {S : (Nat → Int32) × Nat} {t : qT} {D : qD} {Q : Int → qT → qD → Prop} {l1 l2 : Int} {a : Nat} (h :
chk ((t.1 a).1 = 0)
(chk (qR l2)
  (chk (qR (D a 0))
    (if l2 < (D a 0) then
      (chk ((t.1 a).1 = 0)
        (chk ((t.1 (t.2.1 a 5)).1 = 10)
          (chk (0 ≤ l2 ∧ l2 < (t.1 (t.2.1 a 5)).2)
            (wp S 12 4 [some (qr a), some (qi (l1 + (D (t.2.1 a 5) l2))), some (qi (l2 + 1))] [] t D Q))))
      else
      (Q l1 t D))))) : wp S 12 4 [some (qr a), some (qi l1), some (qi l2)] [] t D Q := vc_ok (cuts := [4]) 600 4 _ _ _ _ h
/-! 13 X0_countSavingAddresses -/
set_option maxRecDepth 100000 in
theorem b13_0 {S : (Nat → Int32) × Nat} {t : qT} {D : qD} {Q : Int → qT → qD → Prop} {a : Nat} (h :
wp S 13 4 [some (qr a), some (qi 0), some (qi 0), none] [] t D Q) : wp S 13 0 [some (qr a), none, none, none] [] t D Q := vc_ok (cuts := [4, 14]) 600 0 _ _ _ _ h
set_option maxRecDepth 100000 in
theorem b13_4 {S : (Nat → Int32) × Nat} {t : qT} {D : qD} {Q : Int → qT → qD → Prop} {l1 l2 : Int} {a : Nat} {o3 : Option qV} (h :
chk ((t.1 a).1 = 0)
(chk (qR l2)
  (chk (qR (D a 0))
    (if l2 < (D a 0) then
      (wp S 13 14 [some (qr a), some (qi l1), some (qi l2), some (qi 0)] [] t D Q)
      else
      (Q l1 t D))))) : wp S 13 4 [some (qr a), some (qi l1), some (qi l2), o3] [] t D Q := vc_ok (cuts := [4, 14]) 600 4 _ _ _ _ h
set_option maxRecDepth 100000 in
theorem b13_14 {S : (Nat → Int32) × Nat} {t : qT} {D : qD} {Q : Int → qT → qD → Prop} {l1 l2 l3 : Int} {a : Nat} (h :
chk (qR l3)
(if l3 < 10 then
  (chk ((t.1 a).1 = 0)
    (wp S 14 0 [some (qr a), some (qi l2), some (qi l3), none] [] t D (fun x1 t1 D1 =>
        (chk (qR x1)
          (if x1 = 0 then
            (wp S 13 14 [some (qr a), some (qi l1), some (qi l2), some (qi (l3 + 1))] [] t1 D1 Q)
            else
            (wp S 13 14 [some (qr a), some (qi (l1 + 1)), some (qi l2), some (qi (l3 + 1))] [] t1 D1 Q))))))
  else
  (wp S 13 4 [some (qr a), some (qi l1), some (qi (l2 + 1)), some (qi l3)] [] t D Q))) : wp S 13 14 [some (qr a), some (qi l1), some (qi l2), some (qi l3)] [] t D Q := vc_ok (cuts := [4, 14]) 600 14 _ _ _ _ h
/-! 14 X0_isAnythingSaved -/
set_option maxRecDepth 100000 in
theorem b14_0 {S : (Nat → Int32) × Nat} {t : qT} {D : qD} {Q : Int → qT → qD → Prop} {l1 l2 : Int} {a : Nat} (h :
wp S 14 2 [some (qr a), some (qi l1), some (qi l2), some (qi 0)] [] t D Q) : wp S 14 0 [some (qr a), some (qi l1), some (qi l2), none] [] t D Q := vc_ok (cuts := [2]) 600 0 _ _ _ _ h
set_option maxRecDepth 100000 in
theorem b14_2 {S : (Nat → Int32) × Nat} {t : qT} {D : qD} {Q : Int → qT → qD → Prop} {l1 l2 l3 : Int} {a : Nat} (h :
chk (qR l3)
(if l3 < 4 then
  (chk ((t.1 a).1 = 0)
    (wp S 1 0 [some (qr a), some (qi l1), some (qi l2), some (qi l3)] [] t D (fun x1 t1 D1 =>
        (chk (qR x1)
          (if x1 = (-1) then
            (wp S 14 2 [some (qr a), some (qi l1), some (qi l2), some (qi (l3 + 1))] [] t1 D1 Q)
            else
            (Q 1 t1 D1))))))
  else
  (Q 0 t D))) : wp S 14 2 [some (qr a), some (qi l1), some (qi l2), some (qi l3)] [] t D Q := vc_ok (cuts := [2]) 600 2 _ _ _ _ h
/-! 15 X1_init -/
set_option maxRecDepth 100000 in
theorem b15_0 {S : (Nat → Int32) × Nat} {t : qT} {D : qD} {Q : Int → qT → qD → Prop} {l1 : Int} {a : Nat} (h :
chk ((t.1 a).1 ≠ 8 ∧ 0 ≤ 8)
(chk (qR l1)
  (chk ((t.1 a).1 = 1)
    (Q 0 t (up D a 0 l1))))) : wp S 15 0 [some (qr a), some (qi l1)] [] t D Q := vc_ok (cuts := []) 600 0 _ _ _ _ h
/-! 16 X1_draw -/
set_option maxRecDepth 100000 in
theorem b16_0 {S : (Nat → Int32) × Nat} {t : qT} {D : qD} {Q : Int → qT → qD → Prop} {l1 : Int} {a : Nat} (h :
chk ((t.1 a).1 = 1)
(chk (0 ≤ ((1103515245 * (D a 0)) + 12345) ∧ ((1103515245 * (D a 0)) + 12345) < 9223372036854775808)
  (chk ((t.1 a).1 = 1)
    (chk (qR l1)
      (if l1 < 1 then
        (Q 0 t (up D a 0 (((1103515245 * (D a 0)) + 12345) % 2147483648)))
        else
        (chk ((t.1 a).1 = 1)
          (chk (0 ≤ ((up D a 0 (((1103515245 * (D a 0)) + 12345) % 2147483648)) a 0) ∧ ((up D a 0 (((1103515245 * (D a 0)) + 12345) % 2147483648)) a 0) < 9223372036854775808)
            (chk (qR l1)
              (chk (0 ≤ (((up D a 0 (((1103515245 * (D a 0)) + 12345) % 2147483648)) a 0) / 65536) ∧ (((up D a 0 (((1103515245 * (D a 0)) + 12345) % 2147483648)) a 0) / 65536) < 9223372036854775808)
                (chk (0 < l1 ∧ l1 < 9223372036854775808)
                  (Q ((((up D a 0 (((1103515245 * (D a 0)) + 12345) % 2147483648)) a 0) / 65536) % l1) t (up D a 0 (((1103515245 * (D a 0)) + 12345) % 2147483648))))))))))))) : wp S 16 0 [some (qr a), some (qi l1)] [] t D Q := vc_ok (cuts := []) 600 0 _ _ _ _ h
/-! 17 X1_doOne -/
set_option maxRecDepth 100000 in
theorem b17_0 {S : (Nat → Int32) × Nat} {t : qT} {D : qD} {Q : Int → qT → qD → Prop} {a l1 : Nat} (h :
chk ((t.1 a).1 = 1)
(wp S 16 0 [some (qr a), some (qi 4)] [] t D (fun x1 t1 D1 =>
    (chk (qR x1)
      (if x1 = 0 then
        (chk ((t1.1 l1).1 = 3)
          (chk ((t1.1 (t1.2.1 l1 0)).1 = 0)
            (chk ((t1.1 a).1 = 1)
              (wp S 16 0 [some (qr a), some (qi (D1 (t1.2.1 l1 0) 0))] [] t1 D1 (fun x2 t2 D2 =>
                  (chk ((t2.1 l1).1 = 3)
                    (wp S 26 0 [some (qr l1), some (qi x2), none] [] t2 D2 (fun _ t3 D3 =>
                        (Q 0 t3 D3)))))))))
        else
        (if x1 = 1 then
          (chk ((t1.1 l1).1 = 3)
            (wp S 25 0 [some (qr l1)] [] t1 D1 (fun x4 t4 D4 =>
                (chk (qR x4)
                  (if x4 < 9 then
                    (chk ((t4.1 l1).1 = 3)
                      (wp S 27 0 [some (qr l1)] [] t4 D4 (fun _ t5 D5 =>
                        (Q 0 t5 D5))))
                    else
                    (Q 0 t4 D4))))))
          else
          (if x1 = 2 then
            (chk ((t1.1 a).1 = 1)
              (wp S 16 0 [some (qr a), some (qi 4)] [] t1 D1 (fun x6 t6 D6 =>
                  (chk ((t6.1 l1).1 = 3)
                    (chk ((t6.1 a).1 = 1)
                      (wp S 16 0 [some (qr a), some (qi 1000)] [] t6 D6 (fun x7 t7 D7 =>
                        (chk ((t7.1 (t6.2.1 l1 2)).1 = 10)
                        (chk (0 ≤ x6 ∧ x6 < (t7.1 (t6.2.1 l1 2)).2)
                        (Q 0 t7 (up D7 (t6.2.1 l1 2) x6 x7)))))))))))
            else
            (chk ((t1.1 a).1 = 1)
              (wp S 18 0 [some (qr a), some (qr l1), none, none] [] t1 D1 (fun x8 t8 D8 =>
                  (chk (x8 = 0 ∨ x8 = 1)
                    (Q x8 t8 D8)))))))))))) : wp S 17 0 [some (qr a), some (qr l1), none] [] t D Q := vc_ok (cuts := []) 600 0 _ _ _ _ h
/-! 18 X1_throwDrawn -/
set_option maxRecDepth 100000 in
theorem b18_0 {S : (Nat → Int32) × Nat} {t : qT} {D : qD} {Q : Int → qT → qD → Prop} {a l1 : Nat} (h :
chk ((t.1 a).1 = 1)
(wp S 16 0 [some (qr a), some (qi 5)] [] t D (fun x1 t1 D1 =>
    (chk ((t1.1 l1).1 = 3)
      (wp S 32 0 [some (qr l1), some (qi x1), none, none, none] [] t1 D1 (fun x2 t2 D2 =>
          (chk (qR x2)
            (if x2 = (-1) then
              (Q 0 t2 D2)
              else
              (chk ((t2.1 l1).1 = 3)
                (wp S 35 0 [some (qr l1), some (qi x2), some (qi x1), none, none] [] t2 D2 (fun _ t3 D3 =>
                    (Q 1 t3 D3)))))))))))) : wp S 18 0 [some (qr a), some (qr l1), none, none] [] t D Q := vc_ok (cuts := []) 600 0 _ _ _ _ h
/-! 20 X2_empty -/
set_option maxRecDepth 100000 in
theorem b20_0 {S : (Nat → Int32) × Nat} {t : qT} {D : qD} {Q : Int → qT → qD → Prop} (h :
Q 0 t (up D 3 2 0)) : wp S 20 0 [some (qs 3)] [] t D Q := vc_ok (cuts := []) 600 0 _ _ _ _ h
/-! 21 X2_add -/
set_option maxRecDepth 100000 in
theorem b21_0 {S : (Nat → Int32) × Nat} {t : qT} {D : qD} {Q : Int → qT → qD → Prop} {l1 : Nat} (h :
chk (l1 = 0 ∨ (t.1 l1).1 = 3)
(chk (0 ≤ (D 3 1) ∧ (D 3 1) < 30)
  (chk (0 ≤ ((D 3 1) + 1) ∧ ((D 3 1) + 1) < 2147483648)
    (chk (qR ((D 3 2) + 1))
      (Q 0 (t.1, (upP t.2.1 4 (D 3 1) l1), t.2.2) (up (up D 3 1 (((D 3 1) + 1) % 30)) 3 2 (qmin ((D 3 2) + 1) 30))))))) : wp S 21 0 [some (qs 3), some (qr l1)] [] t D Q := vc_ok (cuts := []) 600 0 _ _ _ _ h
/-! 22 X2_takeLatest -/
/-! 23 X2_become -/
/-! 24 X3_init -/
set_option maxRecDepth 100000 in
theorem b24_0 {S : (Nat → Int32) × Nat} {t : qT} {D : qD} {Q : Int → qT → qD → Prop} {a l1 : Nat} (h :
chk ((t.1 a).1 ≠ 8 ∧ 0 ≤ 8)
(chk ((t.1 a).1 = 3)
  (chk (qsP a 0 = none)
    (wp S 22 9 [some (qr a), some (qr l1), none, none] [] (t.1, (upP t.2.1 a 0 l1), t.2.2) D Q)))) : wp S 22 0 [some (qr a), some (qr l1), none, none] [] t D Q := vc_ok (cuts := [9, 17, 24, 32, 40, 48, 56, 61, 66, 68, 78]) 600 0 _ _ _ _ h
set_option maxRecDepth 100000 in
theorem b24_9 {S : (Nat → Int32) × Nat} {t : qT} {D : qD} {Q : Int → qT → qD → Prop} {a l1 : Nat} (h :
chk (((nwT t.1 t.2.2.1 (10, 9)) a).1 = 3)
(chk (qsP a 1 = none)
  (wp S 22 17 [some (qr a), some (qr l1), none, none] [] ((nwT t.1 t.2.2.1 (10, 9)), (upP (nwP t.2.1 t.2.2.1) a 1 t.2.2.1), ((t.2.2.1 + 1), (t.2.2.2 + 9))) (upr D t.2.2.1 (fun _ => 0)) Q))) : wp S 22 9 [some (qr a), some (qr l1), none, none] [] t D Q := vc_ok (cuts := [9, 17, 24, 32, 40, 48, 56, 61, 66, 68, 78]) 600 9 _ _ _ _ h
set_option maxRecDepth 100000 in
theorem b24_17 {S : (Nat → Int32) × Nat} {t : qT} {D : qD} {Q : Int → qT → qD → Prop} {a l1 : Nat} (h :
chk (((nwT t.1 t.2.2.1 (10, 4)) a).1 = 3)
(chk (qsP a 2 = none)
  (wp S 22 24 [some (qr a), some (qr l1), none, none] [] ((nwT t.1 t.2.2.1 (10, 4)), (upP (nwP t.2.1 t.2.2.1) a 2 t.2.2.1), ((t.2.2.1 + 1), (t.2.2.2 + 4))) (upr D t.2.2.1 (fun _ => 0)) Q))) : wp S 22 17 [some (qr a), some (qr l1), none, none] [] t D Q := vc_ok (cuts := [9, 17, 24, 32, 40, 48, 56, 61, 66, 68, 78]) 600 17 _ _ _ _ h
set_option maxRecDepth 100000 in
theorem b24_24 {S : (Nat → Int32) × Nat} {t : qT} {D : qD} {Q : Int → qT → qD → Prop} {a l1 : Nat} (h :
chk (((nwT t.1 t.2.2.1 (10, 8)) a).1 = 3)
(chk (qsP a 3 = none)
  (wp S 22 32 [some (qr a), some (qr l1), none, none] [] ((nwT t.1 t.2.2.1 (10, 8)), (upP (nwP t.2.1 t.2.2.1) a 3 t.2.2.1), ((t.2.2.1 + 1), (t.2.2.2 + 8))) (upr D t.2.2.1 (fun _ => 0)) Q))) : wp S 22 24 [some (qr a), some (qr l1), none, none] [] t D Q := vc_ok (cuts := [9, 17, 24, 32, 40, 48, 56, 61, 66, 68, 78]) 600 24 _ _ _ _ h
set_option maxRecDepth 100000 in
theorem b24_32 {S : (Nat → Int32) × Nat} {t : qT} {D : qD} {Q : Int → qT → qD → Prop} {a l1 : Nat} (h :
chk (((nwT t.1 t.2.2.1 (10, 8)) a).1 = 3)
(chk (qsP a 4 = none)
  (wp S 22 40 [some (qr a), some (qr l1), none, none] [] ((nwT t.1 t.2.2.1 (10, 8)), (upP (nwP t.2.1 t.2.2.1) a 4 t.2.2.1), ((t.2.2.1 + 1), (t.2.2.2 + 8))) (upr D t.2.2.1 (fun _ => 0)) Q))) : wp S 22 32 [some (qr a), some (qr l1), none, none] [] t D Q := vc_ok (cuts := [9, 17, 24, 32, 40, 48, 56, 61, 66, 68, 78]) 600 32 _ _ _ _ h
set_option maxRecDepth 100000 in
theorem b24_40 {S : (Nat → Int32) × Nat} {t : qT} {D : qD} {Q : Int → qT → qD → Prop} {a l1 : Nat} (h :
chk (((nwT t.1 t.2.2.1 (10, 48)) a).1 = 3)
(chk (qsP a 5 = none)
  (wp S 22 48 [some (qr a), some (qr l1), none, none] [] ((nwT t.1 t.2.2.1 (10, 48)), (upP (nwP t.2.1 t.2.2.1) a 5 t.2.2.1), ((t.2.2.1 + 1), (t.2.2.2 + 48))) (upr D t.2.2.1 (fun _ => 0)) Q))) : wp S 22 40 [some (qr a), some (qr l1), none, none] [] t D Q := vc_ok (cuts := [9, 17, 24, 32, 40, 48, 56, 61, 66, 68, 78]) 600 40 _ _ _ _ h
set_option maxRecDepth 100000 in
theorem b24_48 {S : (Nat → Int32) × Nat} {t : qT} {D : qD} {Q : Int → qT → qD → Prop} {a l1 : Nat} (h :
chk (((nwT t.1 t.2.2.1 (10, 24)) a).1 = 3)
(chk (qsP a 6 = none)
  (wp S 22 56 [some (qr a), some (qr l1), none, none] [] ((nwT t.1 t.2.2.1 (10, 24)), (upP (nwP t.2.1 t.2.2.1) a 6 t.2.2.1), ((t.2.2.1 + 1), (t.2.2.2 + 24))) (upr D t.2.2.1 (fun _ => 0)) Q))) : wp S 22 48 [some (qr a), some (qr l1), none, none] [] t D Q := vc_ok (cuts := [9, 17, 24, 32, 40, 48, 56, 61, 66, 68, 78]) 600 48 _ _ _ _ h
set_option maxRecDepth 100000 in
theorem b24_56 {S : (Nat → Int32) × Nat} {t : qT} {D : qD} {Q : Int → qT → qD → Prop} {a l1 : Nat} (h :
chk ((t.1 a).1 = 3)
(wp S 22 61 [some (qr a), some (qr l1), none, none] [] t (up D a 7 0) Q)) : wp S 22 56 [some (qr a), some (qr l1), none, none] [] t D Q := vc_ok (cuts := [9, 17, 24, 32, 40, 48, 56, 61, 66, 68, 78]) 600 56 _ _ _ _ h
set_option maxRecDepth 100000 in
theorem b24_61 {S : (Nat → Int32) × Nat} {t : qT} {D : qD} {Q : Int → qT → qD → Prop} {a l1 : Nat} (h :
chk ((t.1 a).1 = 3)
(wp S 22 66 [some (qr a), some (qr l1), none, none] [] t (up D a 8 0) Q)) : wp S 22 61 [some (qr a), some (qr l1), none, none] [] t D Q := vc_ok (cuts := [9, 17, 24, 32, 40, 48, 56, 61, 66, 68, 78]) 600 61 _ _ _ _ h
set_option maxRecDepth 100000 in
theorem b24_66 {S : (Nat → Int32) × Nat} {t : qT} {D : qD} {Q : Int → qT → qD → Prop} {a l1 : Nat} (h :
wp S 22 68 [some (qr a), some (qr l1), some (qi 0), none] [] t D Q) : wp S 22 66 [some (qr a), some (qr l1), none, none] [] t D Q := vc_ok (cuts := [9, 17, 24, 32, 40, 48, 56, 61, 66, 68, 78]) 600 66 _ _ _ _ h
set_option maxRecDepth 100000 in
theorem b24_68 {S : (Nat → Int32) × Nat} {t : qT} {D : qD} {Q : Int → qT → qD → Prop} {l2 : Int} {a l1 : Nat} {o3 : Option qV} (h :
chk ((t.1 l1).1 = 0)
(chk (qR l2)
  (chk (qR (D l1 0))
    (if l2 < (D l1 0) then
      (wp S 22 78 [some (qr a), some (qr l1), some (qi l2), some (qi 0)] [] t D Q)
      else
      (Q 0 t D))))) : wp S 22 68 [some (qr a), some (qr l1), some (qi l2), o3] [] t D Q := vc_ok (cuts := [9, 17, 24, 32, 40, 48, 56, 61, 66, 68, 78]) 600 68 _ _ _ _ h
set_option maxRecDepth 100000 in
theorem b24_78 {S : (Nat → Int32) × Nat} {t : qT} {D : qD} {Q : Int → qT → qD → Prop} {l2 l3 : Int} {a l1 : Nat} (h :
chk ((t.1 l1).1 = 0)
(wp S 3 0 [some (qr l1), some (qi l2)] [] t D (fun x1 t1 D1 =>
    (chk (qR l3)
      (chk (qR x1)
        (if l3 < x1 then
          (chk ((t1.1 a).1 = 3)
            (wp S 89 0 [some (qi l2), some (qi l3)] [] t1 D1 (fun x2 t2 D2 =>
                (chk ((t2.1 l1).1 = 0)
                  (wp S 5 0 [some (qr l1), some (qi l2), some (qi l3), some (qi 0)] [] t2 D2 (fun x3 t3 D3 =>
                      (chk ((t3.1 (t1.2.1 a 1)).1 = 10)
                        (chk (0 ≤ x2 ∧ x2 < (t3.1 (t1.2.1 a 1)).2)
                        (wp S 22 78 [some (qr a), some (qr l1), some (qi l2), some (qi (l3 + 1))] [] t3 (up D3 (t1.2.1 a 1) x2 x3) Q)))))))))
          else
          (wp S 22 68 [some (qr a), some (qr l1), some (qi (l2 + 1)), some (qi l3)] [] t1 D1 Q))))))) : wp S 22 78 [some (qr a), some (qr l1), some (qi l2), some (qi l3)] [] t D Q := vc_ok (cuts := [9, 17, 24, 32, 40, 48, 56, 61, 66, 68, 78]) 600 78 _ _ _ _ h
/-! 25 X3_init_ -/
set_option maxRecDepth 100000 in
theorem b25_0 {S : (Nat → Int32) × Nat} {t : qT} {D : qD} {Q : Int → qT → qD → Prop} {a l1 : Nat} (h :
chk ((t.1 a).1 ≠ 8 ∧ 0 ≤ 8)
(chk ((t.1 l1).1 = 3)
  (chk ((t.1 a).1 = 3)
    (chk (qsP a 0 = none)
      (wp S 23 12 [some (qr a), some (qr l1)] [] (t.1, (upP t.2.1 a 0 (t.2.1 l1 0)), t.2.2) D Q))))) : wp S 23 0 [some (qr a), some (qr l1)] [] t D Q := vc_ok (cuts := [12, 26, 40, 54, 68, 82, 96, 104]) 600 0 _ _ _ _ h
set_option maxRecDepth 100000 in
theorem b25_12 {S : (Nat → Int32) × Nat} {t : qT} {D : qD} {Q : Int → qT → qD → Prop} {a l1 : Nat} (h :
chk ((t.1 l1).1 = 3)
(chk ((t.1 (t.2.1 l1 1)).1 = 10)
  (chk (((nwT t.1 t.2.2.1 (t.1 (t.2.1 l1 1))) t.2.2.1).1 = 10)
    (chk (((nwT t.1 t.2.2.1 (t.1 (t.2.1 l1 1))) a).1 = 3)
      (chk (qsP a 1 = none)
        (wp S 23 26 [some (qr a), some (qr l1)] [] ((nwT t.1 t.2.2.1 (t.1 (t.2.1 l1 1))), (upP (nwP t.2.1 t.2.2.1) a 1 t.2.2.1), ((t.2.2.1 + 1), (t.2.2.2 + (t.1 (t.2.1 l1 1)).2.toNat))) (upr D t.2.2.1 (D (t.2.1 l1 1))) Q)))))) : wp S 23 12 [some (qr a), some (qr l1)] [] t D Q := vc_ok (cuts := [12, 26, 40, 54, 68, 82, 96, 104]) 600 12 _ _ _ _ h
set_option maxRecDepth 100000 in
theorem b25_26 {S : (Nat → Int32) × Nat} {t : qT} {D : qD} {Q : Int → qT → qD → Prop} {a l1 : Nat} (h :
chk ((t.1 l1).1 = 3)
(chk ((t.1 (t.2.1 l1 2)).1 = 10)
  (chk (((nwT t.1 t.2.2.1 (t.1 (t.2.1 l1 2))) t.2.2.1).1 = 10)
    (chk (((nwT t.1 t.2.2.1 (t.1 (t.2.1 l1 2))) a).1 = 3)
      (chk (qsP a 2 = none)
        (wp S 23 40 [some (qr a), some (qr l1)] [] ((nwT t.1 t.2.2.1 (t.1 (t.2.1 l1 2))), (upP (nwP t.2.1 t.2.2.1) a 2 t.2.2.1), ((t.2.2.1 + 1), (t.2.2.2 + (t.1 (t.2.1 l1 2)).2.toNat))) (upr D t.2.2.1 (D (t.2.1 l1 2))) Q)))))) : wp S 23 26 [some (qr a), some (qr l1)] [] t D Q := vc_ok (cuts := [12, 26, 40, 54, 68, 82, 96, 104]) 600 26 _ _ _ _ h
set_option maxRecDepth 100000 in
theorem b25_40 {S : (Nat → Int32) × Nat} {t : qT} {D : qD} {Q : Int → qT → qD → Prop} {a l1 : Nat} (h :
chk ((t.1 l1).1 = 3)
(chk ((t.1 (t.2.1 l1 3)).1 = 10)
  (chk (((nwT t.1 t.2.2.1 (t.1 (t.2.1 l1 3))) t.2.2.1).1 = 10)
    (chk (((nwT t.1 t.2.2.1 (t.1 (t.2.1 l1 3))) a).1 = 3)
      (chk (qsP a 3 = none)
        (wp S 23 54 [some (qr a), some (qr l1)] [] ((nwT t.1 t.2.2.1 (t.1 (t.2.1 l1 3))), (upP (nwP t.2.1 t.2.2.1) a 3 t.2.2.1), ((t.2.2.1 + 1), (t.2.2.2 + (t.1 (t.2.1 l1 3)).2.toNat))) (upr D t.2.2.1 (D (t.2.1 l1 3))) Q)))))) : wp S 23 40 [some (qr a), some (qr l1)] [] t D Q := vc_ok (cuts := [12, 26, 40, 54, 68, 82, 96, 104]) 600 40 _ _ _ _ h
set_option maxRecDepth 100000 in
theorem b25_54 {S : (Nat → Int32) × Nat} {t : qT} {D : qD} {Q : Int → qT → qD → Prop} {a l1 : Nat} (h :
chk ((t.1 l1).1 = 3)
(chk ((t.1 (t.2.1 l1 4)).1 = 10)
  (chk (((nwT t.1 t.2.2.1 (t.1 (t.2.1 l1 4))) t.2.2.1).1 = 10)
    (chk (((nwT t.1 t.2.2.1 (t.1 (t.2.1 l1 4))) a).1 = 3)
      (chk (qsP a 4 = none)
        (wp S 23 68 [some (qr a), some (qr l1)] [] ((nwT t.1 t.2.2.1 (t.1 (t.2.1 l1 4))), (upP (nwP t.2.1 t.2.2.1) a 4 t.2.2.1), ((t.2.2.1 + 1), (t.2.2.2 + (t.1 (t.2.1 l1 4)).2.toNat))) (upr D t.2.2.1 (D (t.2.1 l1 4))) Q)))))) : wp S 23 54 [some (qr a), some (qr l1)] [] t D Q := vc_ok (cuts := [12, 26, 40, 54, 68, 82, 96, 104]) 600 54 _ _ _ _ h
set_option maxRecDepth 100000 in
theorem b25_68 {S : (Nat → Int32) × Nat} {t : qT} {D : qD} {Q : Int → qT → qD → Prop} {a l1 : Nat} (h :
chk ((t.1 l1).1 = 3)
(chk ((t.1 (t.2.1 l1 5)).1 = 10)
  (chk (((nwT t.1 t.2.2.1 (t.1 (t.2.1 l1 5))) t.2.2.1).1 = 10)
    (chk (((nwT t.1 t.2.2.1 (t.1 (t.2.1 l1 5))) a).1 = 3)
      (chk (qsP a 5 = none)
        (wp S 23 82 [some (qr a), some (qr l1)] [] ((nwT t.1 t.2.2.1 (t.1 (t.2.1 l1 5))), (upP (nwP t.2.1 t.2.2.1) a 5 t.2.2.1), ((t.2.2.1 + 1), (t.2.2.2 + (t.1 (t.2.1 l1 5)).2.toNat))) (upr D t.2.2.1 (D (t.2.1 l1 5))) Q)))))) : wp S 23 68 [some (qr a), some (qr l1)] [] t D Q := vc_ok (cuts := [12, 26, 40, 54, 68, 82, 96, 104]) 600 68 _ _ _ _ h
set_option maxRecDepth 100000 in
theorem b25_82 {S : (Nat → Int32) × Nat} {t : qT} {D : qD} {Q : Int → qT → qD → Prop} {a l1 : Nat} (h :
chk ((t.1 l1).1 = 3)
(chk ((t.1 (t.2.1 l1 6)).1 = 10)
  (chk (((nwT t.1 t.2.2.1 (t.1 (t.2.1 l1 6))) t.2.2.1).1 = 10)
    (chk (((nwT t.1 t.2.2.1 (t.1 (t.2.1 l1 6))) a).1 = 3)
      (chk (qsP a 6 = none)
        (wp S 23 96 [some (qr a), some (qr l1)] [] ((nwT t.1 t.2.2.1 (t.1 (t.2.1 l1 6))), (upP (nwP t.2.1 t.2.2.1) a 6 t.2.2.1), ((t.2.2.1 + 1), (t.2.2.2 + (t.1 (t.2.1 l1 6)).2.toNat))) (upr D t.2.2.1 (D (t.2.1 l1 6))) Q)))))) : wp S 23 82 [some (qr a), some (qr l1)] [] t D Q := vc_ok (cuts := [12, 26, 40, 54, 68, 82, 96, 104]) 600 82 _ _ _ _ h
set_option maxRecDepth 100000 in
theorem b25_96 {S : (Nat → Int32) × Nat} {t : qT} {D : qD} {Q : Int → qT → qD → Prop} {a l1 : Nat} (h :
chk ((t.1 l1).1 = 3)
(chk ((t.1 a).1 = 3)
  (wp S 23 104 [some (qr a), some (qr l1)] [] t (up D a 7 (D l1 7)) Q))) : wp S 23 96 [some (qr a), some (qr l1)] [] t D Q := vc_ok (cuts := [12, 26, 40, 54, 68, 82, 96, 104]) 600 96 _ _ _ _ h
set_option maxRecDepth 100000 in
theorem b25_104 {S : (Nat → Int32) × Nat} {t : qT} {D : qD} {Q : Int → qT → qD → Prop} {a l1 : Nat} (h :
chk ((t.1 l1).1 = 3)
(chk ((t.1 a).1 = 3)
  (Q 0 t (up D a 8 (D l1 8))))) : wp S 23 104 [some (qr a), some (qr l1)] [] t D Q := vc_ok (cuts := [12, 26, 40, 54, 68, 82, 96, 104]) 600 104 _ _ _ _ h
/-! 26 X3_levelOf -/
set_option maxRecDepth 100000 in
theorem b26_0 {S : (Nat → Int32) × Nat} {t : qT} {D : qD} {Q : Int → qT → qD → Prop} {l1 : Int} {a : Nat} (h :
chk ((t.1 a).1 = 3)
(Q (((D a 7) - 1) - l1) t D)) : wp S 24 0 [some (qr a), some (qi l1)] [] t D Q := vc_ok (cuts := []) 600 0 _ _ _ _ h
/-! 27 X3_latestAddress -/
set_option maxRecDepth 100000 in
theorem b27_0 {S : (Nat → Int32) × Nat} {t : qT} {D : qD} {Q : Int → qT → qD → Prop} {a : Nat} (h :
chk ((t.1 a).1 = 3)
(chk (qR (D a 7))
  (if 0 < (D a 7) then
    (chk ((t.1 a).1 = 3)
      (chk ((t.1 a).1 = 3)
        (chk ((t.1 (t.2.1 a 4)).1 = 10)
          (chk (0 ≤ ((D a 7) - 1) ∧ ((D a 7) - 1) < (t.1 (t.2.1 a 4)).2)
            (Q (D (t.2.1 a 4) ((D a 7) - 1)) t D)))))
    else
    (Q 0 t D)))) : wp S 25 0 [some (qr a)] [] t D Q := vc_ok (cuts := []) 600 0 _ _ _ _ h
/-! 28 X3_enter -/
set_option maxRecDepth 100000 in
theorem b28_0 {S : (Nat → Int32) × Nat} {t : qT} {D : qD} {Q : Int → qT → qD → Prop} {l1 : Int} {a : Nat} (h :
chk ((t.1 a).1 = 3)
(chk (qR (D a 7))
  (if (D a 7) < 8 then
    (chk ((t.1 a).1 = 3)
      (chk ((t.1 a).1 = 3)
        (chk ((t.1 (t.2.1 a 3)).1 = 10)
          (chk (0 ≤ (D a 7) ∧ (D a 7) < (t.1 (t.2.1 a 3)).2)
            (chk ((t.1 a).1 = 3)
              (chk ((t.1 a).1 = 3)
                (chk ((t.1 (t.2.1 a 4)).1 = 10)
                  (chk (0 ≤ ((up D (t.2.1 a 3) (D a 7) l1) a 7) ∧ ((up D (t.2.1 a 3) (D a 7) l1) a 7) < (t.1 (t.2.1 a 4)).2)
                    (wp S 26 32 [some (qr a), some (qi l1), some (qi 0)] [] t (up (up D (t.2.1 a 3) (D a 7) l1) (t.2.1 a 4) ((up D (t.2.1 a 3) (D a 7) l1) a 7) 0) Q)))))))))
    else
    (Q 0 t D)))) : wp S 26 0 [some (qr a), some (qi l1), none] [] t D Q := vc_ok (cuts := [32]) 600 0 _ _ _ _ h
set_option maxRecDepth 100000 in
theorem b28_32 {S : (Nat → Int32) × Nat} {t : qT} {D : qD} {Q : Int → qT → qD → Prop} {l1 l2 : Int} {a : Nat} (h :
chk (qR l2)
(if l2 < 6 then
  (chk ((t.1 a).1 = 3)
    (chk ((t.1 a).1 = 3)
      (chk ((t.1 (t.2.1 a 5)).1 = 10)
        (chk (0 ≤ (((D a 7) * 6) + l2) ∧ (((D a 7) * 6) + l2) < (t.1 (t.2.1 a 5)).2)
          (wp S 26 32 [some (qr a), some (qi l1), some (qi (l2 + 1))] [] t (up D (t.2.1 a 5) (((D a 7) * 6) + l2) 0) Q)))))
  else
  (chk ((t.1 a).1 = 3)
    (chk ((t.1 a).1 = 3)
      (chk ((t.1 a).1 = 3)
        (wp S 28 0 [some (qr a), none, none, none] [] t (up D a 7 ((D a 7) + 1)) (fun _ t1 D1 =>
            (Q 0 t1 D1)))))))) : wp S 26 32 [some (qr a), some (qi l1), some (qi l2)] [] t D Q := vc_ok (cuts := [32]) 600 32 _ _ _ _ h
/-! 29 X3_step -/
set_option maxRecDepth 100000 in
theorem b29_0 {S : (Nat → Int32) × Nat} {t : qT} {D : qD} {Q : Int → qT → qD → Prop} {a : Nat} (h :
chk ((t.1 a).1 = 3)
(chk (qR (D a 7))
  (if 0 < (D a 7) then
    (chk ((t.1 a).1 = 3)
      (chk ((t.1 a).1 = 3)
        (chk ((t.1 (t.2.1 a 4)).1 = 10)
          (chk (0 ≤ ((D a 7) - 1) ∧ ((D a 7) - 1) < (t.1 (t.2.1 a 4)).2)
            (chk ((t.1 (t.2.1 a 4)).1 = 10)
              (chk (0 ≤ ((D a 7) - 1) ∧ ((D a 7) - 1) < (t.1 (t.2.1 a 4)).2)
                (chk ((t.1 a).1 = 3)
                  (wp S 28 0 [some (qr a), none, none, none] [] t (up D (t.2.1 a 4) ((D a 7) - 1) ((D (t.2.1 a 4) ((D a 7) - 1)) + 1)) (fun _ t1 D1 =>
                      (Q 0 t1 D1))))))))))
    else
    (Q 0 t D)))) : wp S 27 0 [some (qr a)] [] t D Q := vc_ok (cuts := []) 600 0 _ _ _ _ h
/-! 30 X3_saveAtLatest -/
set_option maxRecDepth 100000 in
theorem b30_0 {S : (Nat → Int32) × Nat} {t : qT} {D : qD} {Q : Int → qT → qD → Prop} {a : Nat} (h :
chk ((t.1 a).1 = 3)
(chk ((t.1 a).1 = 3)
  (chk ((t.1 (t.2.1 a 3)).1 = 10)
    (chk (0 ≤ ((D a 7) - 1) ∧ ((D a 7) - 1) < (t.1 (t.2.1 a 3)).2)
      (wp S 28 16 [some (qr a), some (qi ((D a 7) - 1)), some (qi (D (t.2.1 a 3) ((D a 7) - 1))), some (qi 0)] [] t D Q))))) : wp S 28 0 [some (qr a), none, none, none] [] t D Q := vc_ok (cuts := [16]) 600 0 _ _ _ _ h
set_option maxRecDepth 100000 in
theorem b30_16 {S : (Nat → Int32) × Nat} {t : qT} {D : qD} {Q : Int → qT → qD → Prop} {l1 l2 l3 : Int} {a : Nat} (h :
chk ((t.1 a).1 = 3)
(chk ((t.1 (t.2.1 a 0)).1 = 0)
  (wp S 7 0 [some (qr (t.2.1 a 0)), some (qi l2)] [] t D (fun x1 t1 D1 =>
      (chk (qR l3)
        (chk (qR x1)
          (if l3 < x1 then
            (chk ((t1.1 a).1 = 3)
              (chk ((t1.1 (t1.2.1 a 0)).1 = 0)
                (wp S 8 0 [some (qr (t1.2.1 a 0)), some (qi l2), some (qi l3)] [] t1 D1 (fun x2 t2 D2 =>
                    (chk ((t2.1 a).1 = 3)
                      (chk ((t2.1 (t2.2.1 a 4)).1 = 10)
                        (chk (0 ≤ l1 ∧ l1 < (t2.1 (t2.2.1 a 4)).2)
                        (chk (qR x2)
                        (chk (qR (D2 (t2.2.1 a 4) l1))
                        (if x2 = (D2 (t2.2.1 a 4) l1) then
                        (chk ((t2.1 a).1 = 3)
                        (chk ((t2.1 a).1 = 3)
                        (chk ((t2.1 (t2.2.1 a 0)).1 = 0)
                        (wp S 10 0 [some (qr (t2.2.1 a 0)), some (qi l2), some (qi l3)] [] t2 D2 (fun x3 t3 D3 =>
                        (chk ((t3.1 a).1 = 3)
                        (chk ((t3.1 a).1 = 3)
                        (chk ((t3.1 (t3.2.1 a 0)).1 = 0)
                        (wp S 9 0 [some (qr (t3.2.1 a 0)), some (qi l2), some (qi l3)] [] t3 D3 (fun x4 t4 D4 =>
                        (chk ((t4.1 (t3.2.1 a 2)).1 = 10)
                        (chk (0 ≤ x4 ∧ x4 < (t4.1 (t3.2.1 a 2)).2)
                        (chk ((t4.1 (t2.2.1 a 5)).1 = 10)
                        (chk (0 ≤ ((l1 * 6) + x3) ∧ ((l1 * 6) + x3) < (t4.1 (t2.2.1 a 5)).2)
                        (wp S 28 16 [some (qr a), some (qi l1), some (qi l2), some (qi (l3 + 1))] [] t4 (up D4 (t2.2.1 a 5) ((l1 * 6) + x3) (D4 (t3.2.1 a 2) x4)) Q)))))))))))))))
                        else
                        (wp S 28 16 [some (qr a), some (qi l1), some (qi l2), some (qi (l3 + 1))] [] t2 D2 Q)))))))))))
            else
            (Q 0 t1 D1)))))))) : wp S 28 16 [some (qr a), some (qi l1), some (qi l2), some (qi l3)] [] t D Q := vc_ok (cuts := [16]) 600 16 _ _ _ _ h
/-! 31 X3_leave -/
set_option maxRecDepth 100000 in
theorem b31_0 {S : (Nat → Int32) × Nat} {t : qT} {D : qD} {Q : Int → qT → qD → Prop} {a : Nat} (h :
chk ((t.1 a).1 = 3)
(chk (qR (D a 7))
  (if (D a 7) < 1 then
    (Q 0 t D)
    else
    (wp S 29 11 [some (qr a), some (qi 0)] [] t D Q)))) : wp S 29 0 [some (qr a), none] [] t D Q := vc_ok (cuts := [11]) 600 0 _ _ _ _ h
set_option maxRecDepth 100000 in
theorem b31_11 {S : (Nat → Int32) × Nat} {t : qT} {D : qD} {Q : Int → qT → qD → Prop} {l1 : Int} {a : Nat} (h :
chk (qR l1)
(if l1 < 4 then
  (chk ((t.1 a).1 = 3)
    (chk ((t.1 a).1 = 3)
      (chk ((t.1 a).1 = 3)
        (chk ((t.1 (t.2.1 a 2)).1 = 10)
          (chk (0 ≤ l1 ∧ l1 < (t.1 (t.2.1 a 2)).2)
            (chk ((t.1 a).1 = 3)
              (wp S 30 0 [some (qr a), some (qi ((D a 7) - 1)), some (qi l1), some (qi (D (t.2.1 a 2) l1)), none] [] t D (fun x1 t1 D1 =>
                  (chk ((t1.1 (t.2.1 a 2)).1 = 10)
                    (chk (0 ≤ l1 ∧ l1 < (t1.1 (t.2.1 a 2)).2)
                      (wp S 29 11 [some (qr a), some (qi (l1 + 1))] [] t1 (up D1 (t.2.1 a 2) l1 x1) Q)))))))))))
  else
  (chk ((t.1 a).1 = 3)
    (chk ((t.1 a).1 = 3)
      (Q 0 t (up D a 7 ((D a 7) - 1))))))) : wp S 29 11 [some (qr a), some (qi l1)] [] t D Q := vc_ok (cuts := [11]) 600 11 _ _ _ _ h
/-! 32 X3_behindBack -/
set_option maxRecDepth 100000 in
theorem b32_0 {S : (Nat → Int32) × Nat} {t : qT} {D : qD} {Q : Int → qT → qD → Prop} {l1 l2 l3 : Int} {a : Nat} (h :
chk ((t.1 a).1 = 3)
(chk ((t.1 a).1 = 3)
  (chk ((t.1 (t.2.1 a 3)).1 = 10)
    (chk (0 ≤ l1 ∧ l1 < (t.1 (t.2.1 a 3)).2)
      (chk ((t.1 a).1 = 3)
        (chk ((t.1 (t.2.1 a 4)).1 = 10)
          (chk (0 ≤ l1 ∧ l1 < (t.1 (t.2.1 a 4)).2)
            (chk ((t.1 (t.2.1 a 0)).1 = 0)
              (wp S 1 0 [some (qr (t.2.1 a 0)), some (qi (D (t.2.1 a 3) l1)), some (qi (D (t.2.1 a 4) l1)), some (qi l2)] [] t D (fun x1 t1 D1 =>
                  (chk (qR x1)
                    (if x1 = (-1) then
                      (Q l3 t1 D1)
                      else
                      (chk ((t1.1 a).1 = 3)
                        (chk ((t1.1 (t1.2.1 a 5)).1 = 10)
                        (chk (0 ≤ ((l1 * 6) + x1) ∧ ((l1 * 6) + x1) < (t1.1 (t1.2.1 a 5)).2)
                        (Q (D1 (t1.2.1 a 5) ((l1 * 6) + x1)) t1 D1)))))))))))))))) : wp S 30 0 [some (qr a), some (qi l1), some (qi l2), some (qi l3), none] [] t D Q := vc_ok (cuts := []) 600 0 _ _ _ _ h
/-! 33 X3_callerOf -/
set_option maxRecDepth 100000 in
theorem b33_0 {S : (Nat → Int32) × Nat} {t : qT} {D : qD} {Q : Int → qT → qD → Prop} {l1 l2 : Int} {a : Nat} (h :
chk ((t.1 a).1 = 3)
(chk ((t.1 (t.2.1 a 2)).1 = 10)
  (chk (0 ≤ l2 ∧ l2 < (t.1 (t.2.1 a 2)).2)
    (chk ((t.1 a).1 = 3)
      (wp S 31 15 [some (qr a), some (qi l1), some (qi l2), some (qi (D (t.2.1 a 2) l2)), some (qi ((D a 7) - 1))] [] t D Q))))) : wp S 31 0 [some (qr a), some (qi l1), some (qi l2), none, none] [] t D Q := vc_ok (cuts := [15]) 600 0 _ _ _ _ h
set_option maxRecDepth 100000 in
theorem b33_15 {S : (Nat → Int32) × Nat} {t : qT} {D : qD} {Q : Int → qT → qD → Prop} {l1 l2 l3 l4 : Int} {a : Nat} (h :
chk (qR l4)
(chk (qR l1)
  (if l4 < l1 then
    (Q l3 t D)
    else
    (chk (qR l4)
      (if l4 < 0 then
        (Q l3 t D)
        else
        (chk ((t.1 a).1 = 3)
          (wp S 30 0 [some (qr a), some (qi l4), some (qi l2), some (qi l3), none] [] t D (fun x1 t1 D1 =>
              (wp S 31 15 [some (qr a), some (qi l1), some (qi l2), some (qi x1), some (qi (l4 + (-1)))] [] t1 D1 Q))))))))) : wp S 31 15 [some (qr a), some (qi l1), some (qi l2), some (qi l3), some (qi l4)] [] t D Q := vc_ok (cuts := [15]) 600 15 _ _ _ _ h
/-! 34 X3_catcherOf -/
set_option maxRecDepth 100000 in
theorem b34_0 {S : (Nat → Int32) × Nat} {t : qT} {D : qD} {Q : Int → qT → qD → Prop} {l1 : Int} {a : Nat} (h :
wp S 32 2 [some (qr a), some (qi l1), some (qi 0), none, none] [] t D Q) : wp S 32 0 [some (qr a), some (qi l1), none, none, none] [] t D Q := vc_ok (cuts := [2, 19]) 600 0 _ _ _ _ h
set_option maxRecDepth 100000 in
theorem b34_2 {S : (Nat → Int32) × Nat} {t : qT} {D : qD} {Q : Int → qT → qD → Prop} {l1 l2 : Int} {a : Nat} {o3 o4 : Option qV} (h :
chk ((t.1 a).1 = 3)
(chk (qR l2)
  (chk (qR (D a 7))
    (if l2 < (D a 7) then
      (chk ((t.1 a).1 = 3)
        (wp S 24 0 [some (qr a), some (qi l2)] [] t D (fun x1 t1 D1 =>
            (wp S 32 19 [some (qr a), some (qi l1), some (qi l2), some (qi x1), some (qi 0)] [] t1 D1 Q))))
      else
      (Q (-1) t D))))) : wp S 32 2 [some (qr a), some (qi l1), some (qi l2), o3, o4] [] t D Q := vc_ok (cuts := [2, 19]) 600 2 _ _ _ _ h
set_option maxRecDepth 100000 in
theorem b34_19 {S : (Nat → Int32) × Nat} {t : qT} {D : qD} {Q : Int → qT → qD → Prop} {l1 l2 l3 l4 : Int} {a : Nat} (h :
chk ((t.1 a).1 = 3)
(chk ((t.1 a).1 = 3)
  (chk ((t.1 (t.2.1 a 3)).1 = 10)
    (chk (0 ≤ l3 ∧ l3 < (t.1 (t.2.1 a 3)).2)
      (chk ((t.1 (t.2.1 a 0)).1 = 0)
        (wp S 3 0 [some (qr (t.2.1 a 0)), some (qi (D (t.2.1 a 3) l3))] [] t D (fun x1 t1 D1 =>
            (chk (qR l4)
              (chk (qR x1)
                (if l4 < x1 then
                  (chk ((t1.1 a).1 = 3)
                    (wp S 33 0 [some (qr a), some (qi l3), some (qi l4), some (qi l1), none, none] [] t1 D1 (fun x2 t2 D2 =>
                        (chk (qR x2)
                        (if x2 = 1 then
                        (Q ((l2 * 3) + l4) t2 D2)
                        else
                        (wp S 32 19 [some (qr a), some (qi l1), some (qi l2), some (qi l3), some (qi (l4 + 1))] [] t2 D2 Q))))))
                  else
                  (wp S 32 2 [some (qr a), some (qi l1), some (qi (l2 + 1)), some (qi l3), some (qi l4)] [] t1 D1 Q))))))))))) : wp S 32 19 [some (qr a), some (qi l1), some (qi l2), some (qi l3), some (qi l4)] [] t D Q := vc_ok (cuts := [2, 19]) 600 19 _ _ _ _ h
/-! 35 X3_deedAt -/
set_option maxRecDepth 100000 in
theorem b35_0 {S : (Nat → Int32) × Nat} {t : qT} {D : qD} {Q : Int → qT → qD → Prop} {l1 l2 l3 : Int} {a : Nat} (h :
chk ((t.1 a).1 = 3)
(chk ((t.1 (t.2.1 a 3)).1 = 10)
  (chk (0 ≤ l1 ∧ l1 < (t.1 (t.2.1 a 3)).2)
    (chk ((t.1 a).1 = 3)
      (chk ((t.1 (t.2.1 a 4)).1 = 10)
        (chk (0 ≤ l1 ∧ l1 < (t.1 (t.2.1 a 4)).2)
          (chk ((t.1 a).1 = 3)
            (chk ((t.1 (t.2.1 a 0)).1 = 0)
              (wp S 5 0 [some (qr (t.2.1 a 0)), some (qi (D (t.2.1 a 3) l1)), some (qi l2), some (qi 1)] [] t D (fun x1 t1 D1 =>
                  (chk (qR (D (t.2.1 a 4) l1))
                    (chk (qR x1)
                      (if (D (t.2.1 a 4) l1) < x1 then
                        (Q 0 t1 D1)
                        else
                        (chk ((t1.1 a).1 = 3)
                        (chk ((t1.1 (t1.2.1 a 0)).1 = 0)
                        (wp S 5 0 [some (qr (t1.2.1 a 0)), some (qi (D (t.2.1 a 3) l1)), some (qi l2), some (qi 2)] [] t1 D1 (fun x2 t2 D2 =>
                        (chk (qR (D (t.2.1 a 4) l1))
                        (chk (qR x2)
                        (if x2 < (D (t.2.1 a 4) l1) then
                        (Q 0 t2 D2)
                        else
                        (chk ((t2.1 a).1 = 3)
                        (wp S 89 0 [some (qi (D (t.2.1 a 3) l1)), some (qi l2)] [] t2 D2 (fun x3 t3 D3 =>
                        (chk ((t3.1 (t2.2.1 a 1)).1 = 10)
                        (chk (0 ≤ x3 ∧ x3 < (t3.1 (t2.2.1 a 1)).2)
                        (chk ((t3.1 a).1 = 3)
                        (chk ((t3.1 (t3.2.1 a 0)).1 = 0)
                        (wp S 5 0 [some (qr (t3.2.1 a 0)), some (qi (D (t.2.1 a 3) l1)), some (qi l2), some (qi 3)] [] t3 D3 (fun x4 t4 D4 =>
                        (wp S 92 0 [some (qi (D3 (t2.2.1 a 1) x3)), some (qi x4), some (qi l3)] [] t4 D4 (fun x5 t5 D5 =>
                        (Q x5 t5 D5)))))))))))))))))))))))))))))))) : wp S 33 0 [some (qr a), some (qi l1), some (qi l2), some (qi l3), none, none] [] t D Q := vc_ok (cuts := []) 600 0 _ _ _ _ h
/-! 36 X3_countFinishing -/
set_option maxRecDepth 100000 in
theorem b36_0 {S : (Nat → Int32) × Nat} {t : qT} {D : qD} {Q : Int → qT → qD → Prop} {l1 l2 : Int} {a : Nat} (h :
wp S 34 5 [some (qr a), some (qi l1), some (qi l2), some (qi 0), some (qi 0), none] [] t D Q) : wp S 34 0 [some (qr a), some (qi l1), some (qi l2), none, none, none] [] t D Q := vc_ok (cuts := [5]) 600 0 _ _ _ _ h
set_option maxRecDepth 100000 in
theorem b36_5 {S : (Nat → Int32) × Nat} {t : qT} {D : qD} {Q : Int → qT → qD → Prop} {l1 l2 l3 l4 : Int} {a : Nat} {o5 : Option qV} (h :
chk (qR l4)
(chk (qR l1)
  (if l4 < l1 then
    (chk (0 ≤ l4 ∧ l4 < 2147483648)
      (chk ((t.1 a).1 = 3)
        (wp S 24 0 [some (qr a), some (qi (l4 / 3))] [] t D (fun x1 t1 D1 =>
            (chk (0 ≤ l4 ∧ l4 < 2147483648)
              (chk ((t1.1 a).1 = 3)
                (chk ((t1.1 a).1 = 3)
                  (chk ((t1.1 (t1.2.1 a 3)).1 = 10)
                    (chk (0 ≤ x1 ∧ x1 < (t1.1 (t1.2.1 a 3)).2)
                      (chk ((t1.1 (t1.2.1 a 0)).1 = 0)
                        (wp S 3 0 [some (qr (t1.2.1 a 0)), some (qi (D1 (t1.2.1 a 3) x1))] [] t1 D1 (fun x2 t2 D2 =>
                        (chk (qR (l4 % 3))
                        (chk (qR x2)
                        (if (l4 % 3) < x2 then
                        (chk (0 ≤ l4 ∧ l4 < 2147483648)
                        (chk ((t2.1 a).1 = 3)
                        (wp S 33 0 [some (qr a), some (qi x1), some (qi (l4 % 3)), some (qi l2), none, none] [] t2 D2 (fun x3 t3 D3 =>
                        (chk (qR x3)
                        (if x3 = 2 then
                        (wp S 34 5 [some (qr a), some (qi l1), some (qi l2), some (qi (l3 + 1)), some (qi (l4 + 1)), some (qi x1)] [] t3 D3 Q)
                        else
                        (wp S 34 5 [some (qr a), some (qi l1), some (qi l2), some (qi l3), some (qi (l4 + 1)), some (qi x1)] [] t3 D3 Q)))))))
                        else
                        (wp S 34 5 [some (qr a), some (qi l1), some (qi l2), some (qi l3), some (qi (l4 + 1)), some (qi x1)] [] t2 D2 Q))))))))))))))))
    else
    (Q l3 t D)))) : wp S 34 5 [some (qr a), some (qi l1), some (qi l2), some (qi l3), some (qi l4), o5] [] t D Q := vc_ok (cuts := [5]) 600 5 _ _ _ _ h
/-! 37 X3_unwindTo -/
set_option maxRecDepth 100000 in
theorem b37_0 {S : (Nat → Int32) × Nat} {t : qT} {D : qD} {Q : Int → qT → qD → Prop} {l1 l2 : Int} {a : Nat} (h :
chk (0 ≤ l1 ∧ l1 < 2147483648)
(chk (qR l1)
  (if l1 < 0 then
    (Q 0 t D)
    else
    (chk ((t.1 a).1 = 3)
      (chk (qR (l1 / 3))
        (chk (qR (D a 7))
          (if (l1 / 3) < (D a 7) then
            (chk ((t.1 a).1 = 3)
              (wp S 35 25 [some (qr a), some (qi l1), some (qi l2), some (qi (l1 / 3)), some (qi 0)] [] t (up D a 8 0) Q))
            else
            (Q 0 t D)))))))) : wp S 35 0 [some (qr a), some (qi l1), some (qi l2), none, none] [] t D Q := vc_ok (cuts := [25]) 600 0 _ _ _ _ h
set_option maxRecDepth 100000 in
theorem b37_25 {S : (Nat → Int32) × Nat} {t : qT} {D : qD} {Q : Int → qT → qD → Prop} {l1 l2 l3 l4 : Int} {a : Nat} (h :
chk (qR l4)
(chk (qR l3)
  (if l4 < l3 then
    (chk ((t.1 a).1 = 3)
      (chk ((t.1 a).1 = 3)
        (chk ((t.1 a).1 = 3)
          (chk ((t.1 (t.2.1 a 3)).1 = 10)
            (chk (0 ≤ ((D a 7) - 1) ∧ ((D a 7) - 1) < (t.1 (t.2.1 a 3)).2)
              (chk ((t.1 (t.2.1 a 0)).1 = 0)
                (wp S 3 0 [some (qr (t.2.1 a 0)), some (qi (D (t.2.1 a 3) ((D a 7) - 1)))] [] t D (fun x1 t1 D1 =>
                    (chk ((t1.1 a).1 = 3)
                      (wp S 36 0 [some (qr a), some (qi x1), some (qi l2), none, none] [] t1 D1 (fun _ t2 D2 =>
                        (chk ((t2.1 a).1 = 3)
                        (wp S 29 0 [some (qr a), none] [] t2 D2 (fun _ t3 D3 =>
                        (wp S 35 25 [some (qr a), some (qi l1), some (qi l2), some (qi l3), some (qi (l4 + 1))] [] t3 D3 Q)))))))))))))))
    else
    (chk (0 ≤ l1 ∧ l1 < 2147483648)
      (chk ((t.1 a).1 = 3)
        (wp S 36 0 [some (qr a), some (qi (l1 % 3)), some (qi l2), none, none] [] t D (fun _ t4 D4 =>
            (chk ((t4.1 a).1 = 3)
              (chk ((t4.1 a).1 = 3)
                (chk ((t4.1 a).1 = 3)
                  (chk ((t4.1 a).1 = 3)
                    (chk ((t4.1 a).1 = 3)
                      (chk ((t4.1 (t4.2.1 a 3)).1 = 10)
                        (chk (0 ≤ ((D4 a 7) - 1) ∧ ((D4 a 7) - 1) < (t4.1 (t4.2.1 a 3)).2)
                        (chk (0 ≤ l1 ∧ l1 < 2147483648)
                        (chk ((t4.1 (t4.2.1 a 0)).1 = 0)
                        (wp S 5 0 [some (qr (t4.2.1 a 0)), some (qi (D4 (t4.2.1 a 3) ((D4 a 7) - 1))), some (qi (l1 % 3)), some (qi 4)] [] t4 D4 (fun x5 t5 D5 =>
                        (chk ((t5.1 (t4.2.1 a 4)).1 = 10)
                        (chk (0 ≤ ((D4 a 7) - 1) ∧ ((D4 a 7) - 1) < (t5.1 (t4.2.1 a 4)).2)
                        (Q 0 t5 (up D5 (t4.2.1 a 4) ((D4 a 7) - 1) x5)))))))))))))))))))))) : wp S 35 25 [some (qr a), some (qi l1), some (qi l2), some (qi l3), some (qi l4)] [] t D Q := vc_ok (cuts := [25]) 600 25 _ _ _ _ h
/-! 38 X3_finishAtLatest -/
set_option maxRecDepth 100000 in
theorem b38_0 {S : (Nat → Int32) × Nat} {t : qT} {D : qD} {Q : Int → qT → qD → Prop} {l1 l2 : Int} {a : Nat} (h :
chk ((t.1 a).1 = 3)
(wp S 36 10 [some (qr a), some (qi l1), some (qi l2), some (qi ((D a 7) - 1)), some (qi 0)] [] t D Q)) : wp S 36 0 [some (qr a), some (qi l1), some (qi l2), none, none] [] t D Q := vc_ok (cuts := [10]) 600 0 _ _ _ _ h
set_option maxRecDepth 100000 in
theorem b38_10 {S : (Nat → Int32) × Nat} {t : qT} {D : qD} {Q : Int → qT → qD → Prop} {l1 l2 l3 l4 : Int} {a : Nat} (h :
chk (qR l4)
(chk (qR l1)
  (if l4 < l1 then
    (chk ((t.1 a).1 = 3)
      (chk ((t.1 a).1 = 3)
        (chk ((t.1 (t.2.1 a 6)).1 = 10)
          (chk (qR (D a 8))
            (chk (qR (t.1 (t.2.1 a 6)).2)
              (if (D a 8) < (t.1 (t.2.1 a 6)).2 then
                (chk ((t.1 a).1 = 3)
                  (wp S 33 0 [some (qr a), some (qi l3), some (qi l4), some (qi l2), none, none] [] t D (fun x1 t1 D1 =>
                      (chk (qR x1)
                        (if x1 = 2 then
                        (chk ((t1.1 a).1 = 3)
                        (chk ((t1.1 a).1 = 3)
                        (chk ((t1.1 a).1 = 3)
                        (chk ((t1.1 (t1.2.1 a 3)).1 = 10)
                        (chk (0 ≤ l3 ∧ l3 < (t1.1 (t1.2.1 a 3)).2)
                        (chk ((t1.1 (t1.2.1 a 6)).1 = 10)
                        (chk (0 ≤ (D1 a 8) ∧ (D1 a 8) < (t1.1 (t1.2.1 a 6)).2)
                        (chk ((t1.1 a).1 = 3)
                        (chk ((t1.1 a).1 = 3)
                        (wp S 36 10 [some (qr a), some (qi l1), some (qi l2), some (qi l3), some (qi (l4 + 1))] [] t1 (up (up D1 (t1.2.1 a 6) (D1 a 8) ((10 * (D1 (t1.2.1 a 3) l3)) + l4)) a 8 (((up D1 (t1.2.1 a 6) (D1 a 8) ((10 * (D1 (t1.2.1 a 3) l3)) + l4)) a 8) + 1)) Q))))))))))
                        else
                        (wp S 36 10 [some (qr a), some (qi l1), some (qi l2), some (qi l3), some (qi (l4 + 1))] [] t1 D1 Q))))))
                else
                (Q 0 t D)))))))
    else
    (Q 0 t D)))) : wp S 36 10 [some (qr a), some (qi l1), some (qi l2), some (qi l3), some (qi l4)] [] t D Q := vc_ok (cuts := [10]) 600 10 _ _ _ _ h
/-! 40 X4_write -/
set_option maxRecDepth 100000 in
theorem b40_0 {S : (Nat → Int32) × Nat} {t : qT} {D : qD} {Q : Int → qT → qD → Prop} {l1 : Int} (h :
chk (qR (D 1 1))
(if (D 1 1) < 100 then
  (chk (0 ≤ (D 1 1) ∧ (D 1 1) < 100)
    (Q 0 t (up (up D 2 (D 1 1) l1) 1 1 (((up D 2 (D 1 1) l1) 1 1) + 1))))
  else
  (Q 0 t D))) : wp S 38 0 [some (qs 1), some (qi l1)] [] t D Q := vc_ok (cuts := []) 600 0 _ _ _ _ h
/-! 41 X4_codeAt -/
set_option maxRecDepth 100000 in
theorem b41_0 {S : (Nat → Int32) × Nat} {t : qT} {D : qD} {Q : Int → qT → qD → Prop} {l1 : Int} (h :
wp S 88 0 [some (qi l1), some (qi (D 1 1))] [] t D (fun x1 t1 D1 =>
  (chk (qR x1)
    (if x1 = 0 then
      (Q 0 t1 D1)
      else
      (chk (0 ≤ l1 ∧ l1 < 100)
        (Q (D1 2 l1) t1 D1)))))) : wp S 39 0 [some (qs 1), some (qi l1)] [] t D Q := vc_ok (cuts := []) 600 0 _ _ _ _ h
/-! 42 X4_digitAt -/
set_option maxRecDepth 100000 in
theorem b42_0 {S : (Nat → Int32) × Nat} {t : qT} {D : qD} {Q : Int → qT → qD → Prop} {l1 : Int} (h :
wp S 39 0 [some (qs 1), some (qi l1)] [] t D (fun x1 t1 D1 =>
  (Q (x1 - 48) t1 D1))) : wp S 40 0 [some (qs 1), some (qi l1)] [] t D Q := vc_ok (cuts := []) 600 0 _ _ _ _ h
