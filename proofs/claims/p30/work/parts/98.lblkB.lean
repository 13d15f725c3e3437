/-! blocks of the law's own methods, written by wip/p30/mklaw.py -/
/-! 98 L_codeText -/
set_option maxRecDepth 100000 in
theorem lb98_0 {S : (Nat → Int32) × Nat} {t : qT} {D : qD} {Q : Int → qT → qD → Prop} {l1 : Int} (h :
wp S 96 0 [some qx, some (qi l1)] [] t D (fun x1 t1 D1 =>
  (wp S 98 13 [some qx, some (qi l1), some (qs 28), some (qs 29), some (qs 30), some (qi 0), some (qi x1), some (qi 0), none, none, none, none, none, none, none, none] [] t1 D1 Q))) : wp S 98 0 [some qx, some (qi l1), some (qs 28), some (qs 29), some (qs 30), none, none, none, none, none, none, none, none, none, none, none] [] t D Q := vc_ok (cuts := [13, 34, 66, 113, 160, 168, 252, 281, 309, 343, 392, 429, 436, 485, 486]) 600 0 _ _ _ _ h
set_option maxRecDepth 100000 in
theorem lb98_13 {S : (Nat → Int32) × Nat} {t : qT} {D : qD} {Q : Int → qT → qD → Prop} {l1 l5 l6 l7 : Int} (h :
chk (qR l7)
(if l7 < 16 then
  (chk (0 ≤ l7 ∧ l7 < 16)
    (wp S 98 13 [some qx, some (qi l1), some (qs 28), some (qs 29), some (qs 30), some (qi l5), some (qi l6), some (qi (l7 + 1)), none, none, none, none, none, none, none, none] [] t (up D 28 l7 0) Q))
  else
  (wp S 98 34 [some qx, some (qi l1), some (qs 28), some (qs 29), some (qs 30), some (qi l5), some (qi l6), some (qi 0), none, none, none, none, none, none, none, none] [] t D Q))) : wp S 98 13 [some qx, some (qi l1), some (qs 28), some (qs 29), some (qs 30), some (qi l5), some (qi l6), some (qi l7), none, none, none, none, none, none, none, none] [] t D Q := vc_ok (cuts := [13, 34, 66, 113, 160, 168, 252, 281, 309, 343, 392, 429, 436, 485, 486]) 600 13 _ _ _ _ h
set_option maxRecDepth 100000 in
theorem lb98_34 {S : (Nat → Int32) × Nat} {t : qT} {D : qD} {Q : Int → qT → qD → Prop} {l1 l5 l6 l7 : Int} (h :
chk (qR l7)
(if l7 < 9 then
  (chk (0 ≤ l7 ∧ l7 < 9)
    (wp S 98 34 [some qx, some (qi l1), some (qs 28), some (qs 29), some (qs 30), some (qi l5), some (qi l6), some (qi (l7 + 1)), none, none, none, none, none, none, none, none] [] t (up D 29 l7 0) Q))
  else
  (wp S 97 0 [some (qi l6), some (qi 3)] [] t D (fun x1 t1 D1 =>
      (wp S 98 66 [some qx, some (qi l1), some (qs 28), some (qs 29), some (qs 30), some (qi l5), some (qi l6), some (qi 0), none, none, none, none, none, none, none, none] [] t1 (up D1 28 0 (1 + x1)) Q))))) : wp S 98 34 [some qx, some (qi l1), some (qs 28), some (qs 29), some (qs 30), some (qi l5), some (qi l6), some (qi l7), none, none, none, none, none, none, none, none] [] t D Q := vc_ok (cuts := [13, 34, 66, 113, 160, 168, 252, 281, 309, 343, 392, 429, 436, 485, 486]) 600 34 _ _ _ _ h
set_option maxRecDepth 100000 in
theorem lb98_66 {S : (Nat → Int32) × Nat} {t : qT} {D : qD} {Q : Int → qT → qD → Prop} {l1 l5 l6 l7 : Int} {o8 o9 o10 o11 o12 o13 o14 o15 : Option qV} (h :
chk (qR l7)
(chk (qR (D 28 0))
  (if l7 < (D 28 0) then
    (wp S 96 0 [some qx, some (qi ((l1 + 1) + l7))] [] t D (fun x1 t1 D1 =>
        (wp S 96 0 [some qx, some (qi ((l1 + 4) + l7))] [] t1 D1 (fun x2 t2 D2 =>
            (chk (qR l7)
              (if 0 < l7 then
                (chk (0 ≤ l5 ∧ l5 < 64)
                  (wp S 98 113 [some qx, some (qi l1), some (qs 28), some (qs 29), some (qs 30), some (qi (l5 + 1)), some (qi l6), some (qi l7), some (qi x1), some (qi x2), o10, o11, o12, o13, o14, o15] [] t2 (up D2 30 l5 47) Q))
                else
                (wp S 98 113 [some qx, some (qi l1), some (qs 28), some (qs 29), some (qs 30), some (qi l5), some (qi l6), some (qi l7), some (qi x1), some (qi x2), o10, o11, o12, o13, o14, o15] [] t2 D2 Q)))))))
    else
    (Q l5 t D)))) : wp S 98 66 [some qx, some (qi l1), some (qs 28), some (qs 29), some (qs 30), some (qi l5), some (qi l6), some (qi l7), o8, o9, o10, o11, o12, o13, o14, o15] [] t D Q := vc_ok (cuts := [13, 34, 66, 113, 160, 168, 252, 281, 309, 343, 392, 429, 436, 485, 486]) 600 66 _ _ _ _ h
set_option maxRecDepth 100000 in
theorem lb98_113 {S : (Nat → Int32) × Nat} {t : qT} {D : qD} {Q : Int → qT → qD → Prop} {l1 l5 l6 l7 l8 l9 : Int} {o10 o11 o12 o13 o14 o15 : Option qV} (h :
chk (0 ≤ (1 + l7) ∧ (1 + l7) < 16)
(chk (qR ((up D 28 (1 + l7) l5) 28 0))
  (if ((up D 28 (1 + l7) l5) 28 0) = 3 then
    (wp S 98 160 [some qx, some (qi l1), some (qs 28), some (qs 29), some (qs 30), some (qi l5), some (qi l6), some (qi l7), some (qi l8), some (qi l9), some (qi 0), some (qi 0), o12, o13, o14, o15] [(qi 4), (qi (qshr l6 (3 + (3 * l7))))] t (up D 28 (1 + l7) l5) Q)
    else
    (chk (qR ((up D 28 (1 + l7) l5) 28 0))
      (if ((up D 28 (1 + l7) l5) 28 0) = 2 then
        (wp S 98 160 [some qx, some (qi l1), some (qs 28), some (qs 29), some (qs 30), some (qi l5), some (qi l6), some (qi l7), some (qi l8), some (qi l9), some (qi 0), some (qi 0), o12, o13, o14, o15] [(qi 5), (qi (qshr l6 (3 + (3 * l7))))] t (up D 28 (1 + l7) l5) Q)
        else
        (wp S 98 160 [some qx, some (qi l1), some (qs 28), some (qs 29), some (qs 30), some (qi l5), some (qi l6), some (qi l7), some (qi l8), some (qi l9), some (qi 0), some (qi 0), o12, o13, o14, o15] [(qi 8), (qi (qshr l6 (3 + (3 * l7))))] t (up D 28 (1 + l7) l5) Q)))))) : wp S 98 113 [some qx, some (qi l1), some (qs 28), some (qs 29), some (qs 30), some (qi l5), some (qi l6), some (qi l7), some (qi l8), some (qi l9), o10, o11, o12, o13, o14, o15] [] t D Q := vc_ok (cuts := [13, 34, 66, 113, 160, 168, 252, 281, 309, 343, 392, 429, 436, 485, 486]) 600 113 _ _ _ _ h
set_option maxRecDepth 100000 in
theorem lb98_160 {S : (Nat → Int32) × Nat} {t : qT} {D : qD} {Q : Int → qT → qD → Prop} {l1 l5 l6 l7 l8 l9 l10 l11 s0 s1 : Int} {o12 o13 o14 o15 : Option qV} (h :
wp S 97 0 [some (qi s1), some (qi s0)] [] t D (fun x1 t1 D1 =>
  (wp S 98 168 [some qx, some (qi l1), some (qs 28), some (qs 29), some (qs 30), some (qi l5), some (qi l6), some (qi l7), some (qi l8), some (qi l9), some (qi l10), some (qi l11), some (qi x1), some (qi 0), o14, o15] [] t1 D1 Q))) : wp S 98 160 [some qx, some (qi l1), some (qs 28), some (qs 29), some (qs 30), some (qi l5), some (qi l6), some (qi l7), some (qi l8), some (qi l9), some (qi l10), some (qi l11), o12, o13, o14, o15] [(qi s0), (qi s1)] t D Q := vc_ok (cuts := [13, 34, 66, 113, 160, 168, 252, 281, 309, 343, 392, 429, 436, 485, 486]) 600 160 _ _ _ _ h
set_option maxRecDepth 100000 in
theorem lb98_168 {S : (Nat → Int32) × Nat} {t : qT} {D : qD} {Q : Int → qT → qD → Prop} {l1 l5 l6 l7 l8 l9 l10 l11 l12 l13 : Int} {o14 o15 : Option qV} (h :
chk (qR l13)
(chk (qR l12)
  (if l13 < l12 then
    (wp S 97 0 [some (qi (qshr l8 (3 * l13))), some (qi 8)] [] t D (fun x1 t1 D1 =>
        (chk (qR x1)
          (if x1 < 2 then
            (chk (qR l10)
              (if l10 < 7 then
                (chk (0 ≤ l5 ∧ l5 < 64)
                  (chk (0 ≤ (qusr l8 ((2 * l13) + 5)) ∧ (qusr l8 ((2 * l13) + 5)) < 2147483648)
                    (chk (0 ≤ (l5 + 1) ∧ (l5 + 1) < 64)
                      (chk (0 ≤ (qusr l8 ((2 * l13) + 5)) ∧ (qusr l8 ((2 * l13) + 5)) < 2147483648)
                        (wp S 98 168 [some qx, some (qi l1), some (qs 28), some (qs 29), some (qs 30), some (qi ((l5 + 1) + 1)), some (qi l6), some (qi l7), some (qi l8), some (qi l9), some (qi (l10 + (1 + ((qusr l8 ((2 * l13) + 5)) % 3)))), some (qi l11), some (qi l12), some (qi (l13 + 1)), some (qi x1), some (qi (qusr l8 ((2 * l13) + 5)))] [] t1 (up (up D1 30 l5 43) 30 (l5 + 1) (49 + ((qusr l8 ((2 * l13) + 5)) % 3))) Q)))))
                else
                (wp S 98 252 [some qx, some (qi l1), some (qs 28), some (qs 29), some (qs 30), some (qi l5), some (qi l6), some (qi l7), some (qi l8), some (qi l9), some (qi l10), some (qi l11), some (qi l12), some (qi l13), some (qi x1), some (qi (qusr l8 ((2 * l13) + 5)))] [] t1 D1 Q)))
            else
            (wp S 98 252 [some qx, some (qi l1), some (qs 28), some (qs 29), some (qs 30), some (qi l5), some (qi l6), some (qi l7), some (qi l8), some (qi l9), some (qi l10), some (qi l11), some (qi l12), some (qi l13), some (qi x1), some (qi (qusr l8 ((2 * l13) + 5)))] [] t1 D1 Q)))))
    else
    (wp S 98 392 [some qx, some (qi l1), some (qs 28), some (qs 29), some (qs 30), some (qi l5), some (qi l6), some (qi l7), some (qi l8), some (qi l9), some (qi l10), some (qi l11), some (qi l12), some (qi l13), o14, o15] [] t D Q)))) : wp S 98 168 [some qx, some (qi l1), some (qs 28), some (qs 29), some (qs 30), some (qi l5), some (qi l6), some (qi l7), some (qi l8), some (qi l9), some (qi l10), some (qi l11), some (qi l12), some (qi l13), o14, o15] [] t D Q := vc_ok (cuts := [13, 34, 66, 113, 160, 168, 252, 281, 309, 343, 392, 429, 436, 485, 486]) 600 168 _ _ _ _ h
set_option maxRecDepth 100000 in
theorem lb98_252 {S : (Nat → Int32) × Nat} {t : qT} {D : qD} {Q : Int → qT → qD → Prop} {l1 l5 l6 l7 l8 l9 l10 l11 l12 l13 l14 l15 : Int} (h :
chk (qR l14)
(if l14 = 6 then
  (chk (qR l11)
    (if l11 < 3 then
      (chk (0 ≤ l5 ∧ l5 < 64)
        (wp S 98 168 [some qx, some (qi l1), some (qs 28), some (qs 29), some (qs 30), some (qi (l5 + 1)), some (qi l6), some (qi l7), some (qi l8), some (qi l9), some (qi l10), some (qi (l11 + 1)), some (qi l12), some (qi (l13 + 1)), some (qi l14), some (qi l15)] [] t (up D 30 l5 109) Q))
      else
      (wp S 98 281 [some qx, some (qi l1), some (qs 28), some (qs 29), some (qs 30), some (qi l5), some (qi l6), some (qi l7), some (qi l8), some (qi l9), some (qi l10), some (qi l11), some (qi l12), some (qi l13), some (qi l14), some (qi l15)] [] t D Q)))
  else
  (wp S 98 281 [some qx, some (qi l1), some (qs 28), some (qs 29), some (qs 30), some (qi l5), some (qi l6), some (qi l7), some (qi l8), some (qi l9), some (qi l10), some (qi l11), some (qi l12), some (qi l13), some (qi l14), some (qi l15)] [] t D Q))) : wp S 98 252 [some qx, some (qi l1), some (qs 28), some (qs 29), some (qs 30), some (qi l5), some (qi l6), some (qi l7), some (qi l8), some (qi l9), some (qi l10), some (qi l11), some (qi l12), some (qi l13), some (qi l14), some (qi l15)] [] t D Q := vc_ok (cuts := [13, 34, 66, 113, 160, 168, 252, 281, 309, 343, 392, 429, 436, 485, 486]) 600 252 _ _ _ _ h
set_option maxRecDepth 100000 in
theorem lb98_281 {S : (Nat → Int32) × Nat} {t : qT} {D : qD} {Q : Int → qT → qD → Prop} {l1 l5 l6 l7 l8 l9 l10 l11 l12 l13 l14 l15 : Int} (h :
chk (qR l14)
(if l14 = 7 then
  (chk (qR l11)
    (if 0 < l11 then
      (chk (0 ≤ l5 ∧ l5 < 64)
        (wp S 98 168 [some qx, some (qi l1), some (qs 28), some (qs 29), some (qs 30), some (qi (l5 + 1)), some (qi l6), some (qi l7), some (qi l8), some (qi l9), some (qi l10), some (qi (l11 + (-1))), some (qi l12), some (qi (l13 + 1)), some (qi l14), some (qi l15)] [] t (up D 30 l5 98) Q))
      else
      (wp S 98 309 [some qx, some (qi l1), some (qs 28), some (qs 29), some (qs 30), some (qi l5), some (qi l6), some (qi l7), some (qi l8), some (qi l9), some (qi l10), some (qi l11), some (qi l12), some (qi l13), some (qi l14), some (qi l15)] [] t D Q)))
  else
  (wp S 98 309 [some qx, some (qi l1), some (qs 28), some (qs 29), some (qs 30), some (qi l5), some (qi l6), some (qi l7), some (qi l8), some (qi l9), some (qi l10), some (qi l11), some (qi l12), some (qi l13), some (qi l14), some (qi l15)] [] t D Q))) : wp S 98 281 [some qx, some (qi l1), some (qs 28), some (qs 29), some (qs 30), some (qi l5), some (qi l6), some (qi l7), some (qi l8), some (qi l9), some (qi l10), some (qi l11), some (qi l12), some (qi l13), some (qi l14), some (qi l15)] [] t D Q := vc_ok (cuts := [13, 34, 66, 113, 160, 168, 252, 281, 309, 343, 392, 429, 436, 485, 486]) 600 281 _ _ _ _ h
set_option maxRecDepth 100000 in
theorem lb98_309 {S : (Nat → Int32) × Nat} {t : qT} {D : qD} {Q : Int → qT → qD → Prop} {l1 l5 l6 l7 l8 l9 l10 l11 l12 l13 l14 l15 : Int} (h :
chk (qR l14)
(if l14 = 5 then
  (chk (0 ≤ l5 ∧ l5 < 64)
    (chk (0 ≤ l15 ∧ l15 < 2147483648)
      (chk (0 ≤ (l5 + 1) ∧ (l5 + 1) < 64)
        (wp S 98 168 [some qx, some (qi l1), some (qs 28), some (qs 29), some (qs 30), some (qi ((l5 + 1) + 1)), some (qi l6), some (qi l7), some (qi l8), some (qi l9), some (qi l10), some (qi l11), some (qi l12), some (qi (l13 + 1)), some (qi l14), some (qi l15)] [] t (up (up D 30 l5 117) 30 (l5 + 1) (48 + (l15 % 4))) Q))))
  else
  (wp S 98 343 [some qx, some (qi l1), some (qs 28), some (qs 29), some (qs 30), some (qi l5), some (qi l6), some (qi l7), some (qi l8), some (qi l9), some (qi l10), some (qi l11), some (qi l12), some (qi l13), some (qi l14), some (qi l15)] [] t D Q))) : wp S 98 309 [some qx, some (qi l1), some (qs 28), some (qs 29), some (qs 30), some (qi l5), some (qi l6), some (qi l7), some (qi l8), some (qi l9), some (qi l10), some (qi l11), some (qi l12), some (qi l13), some (qi l14), some (qi l15)] [] t D Q := vc_ok (cuts := [13, 34, 66, 113, 160, 168, 252, 281, 309, 343, 392, 429, 436, 485, 486]) 600 309 _ _ _ _ h
set_option maxRecDepth 100000 in
theorem lb98_343 {S : (Nat → Int32) × Nat} {t : qT} {D : qD} {Q : Int → qT → qD → Prop} {l1 l5 l6 l7 l8 l9 l10 l11 l12 l13 l14 l15 : Int} (h :
chk (0 ≤ l5 ∧ l5 < 64)
(chk (0 ≤ l15 ∧ l15 < 2147483648)
  (chk (0 ≤ (l5 + 1) ∧ (l5 + 1) < 64)
    (chk (0 ≤ l15 ∧ l15 < 2147483648)
      (chk (0 ≤ (l15 / 4) ∧ (l15 / 4) < 2147483648)
        (chk (0 ≤ ((l5 + 1) + 1) ∧ ((l5 + 1) + 1) < 64)
          (wp S 98 168 [some qx, some (qi l1), some (qs 28), some (qs 29), some (qs 30), some (qi (((l5 + 1) + 1) + 1)), some (qi l6), some (qi l7), some (qi l8), some (qi l9), some (qi l10), some (qi l11), some (qi l12), some (qi (l13 + 1)), some (qi l14), some (qi l15)] [] t (up (up (up D 30 l5 115) 30 (l5 + 1) (48 + (l15 % 4))) 30 ((l5 + 1) + 1) (48 + ((l15 / 4) % 6))) Q))))))) : wp S 98 343 [some qx, some (qi l1), some (qs 28), some (qs 29), some (qs 30), some (qi l5), some (qi l6), some (qi l7), some (qi l8), some (qi l9), some (qi l10), some (qi l11), some (qi l12), some (qi l13), some (qi l14), some (qi l15)] [] t D Q := vc_ok (cuts := [13, 34, 66, 113, 160, 168, 252, 281, 309, 343, 392, 429, 436, 485, 486]) 600 343 _ _ _ _ h
set_option maxRecDepth 100000 in
theorem lb98_392 {S : (Nat → Int32) × Nat} {t : qT} {D : qD} {Q : Int → qT → qD → Prop} {l1 l5 l6 l7 l8 l9 l10 l11 l12 l13 : Int} {o14 o15 : Option qV} (h :
chk (0 ≤ l5 ∧ l5 < 64)
(chk (qR ((up D 30 l5 59) 28 0))
  (if ((up D 30 l5 59) 28 0) = 3 then
    (wp S 98 429 [some qx, some (qi l1), some (qs 28), some (qs 29), some (qs 30), some (qi (l5 + 1)), some (qi l6), some (qi l7), some (qi l8), some (qi l9), some (qi l10), some (qi l11), some (qi l12), some (qi l13), o14, o15] [(qi 3), (qi (qshr l6 (13 + (2 * l7)))), (qi (4 + l7)), (qs 28)] t (up D 30 l5 59) Q)
    else
    (wp S 98 429 [some qx, some (qi l1), some (qs 28), some (qs 29), some (qs 30), some (qi (l5 + 1)), some (qi l6), some (qi l7), some (qi l8), some (qi l9), some (qi l10), some (qi l11), some (qi l12), some (qi l13), o14, o15] [(qi 4), (qi (qshr l6 (13 + (2 * l7)))), (qi (4 + l7)), (qs 28)] t (up D 30 l5 59) Q)))) : wp S 98 392 [some qx, some (qi l1), some (qs 28), some (qs 29), some (qs 30), some (qi l5), some (qi l6), some (qi l7), some (qi l8), some (qi l9), some (qi l10), some (qi l11), some (qi l12), some (qi l13), o14, o15] [] t D Q := vc_ok (cuts := [13, 34, 66, 113, 160, 168, 252, 281, 309, 343, 392, 429, 436, 485, 486]) 600 392 _ _ _ _ h
set_option maxRecDepth 100000 in
theorem lb98_429 {S : (Nat → Int32) × Nat} {t : qT} {D : qD} {Q : Int → qT → qD → Prop} {l1 l5 l6 l7 l8 l9 l10 l11 l12 l13 s0 s1 s2 : Int} {o14 o15 : Option qV} (h :
wp S 97 0 [some (qi s1), some (qi s0)] [] t D (fun x1 t1 D1 =>
  (chk (0 ≤ s2 ∧ s2 < 16)
    (wp S 98 436 [some qx, some (qi l1), some (qs 28), some (qs 29), some (qs 30), some (qi l5), some (qi l6), some (qi l7), some (qi l8), some (qi l9), some (qi l10), some (qi l11), some (qi l12), some (qi 0), o14, o15] [] t1 (up D1 28 s2 x1) Q)))) : wp S 98 429 [some qx, some (qi l1), some (qs 28), some (qs 29), some (qs 30), some (qi l5), some (qi l6), some (qi l7), some (qi l8), some (qi l9), some (qi l10), some (qi l11), some (qi l12), some (qi l13), o14, o15] [(qi s0), (qi s1), (qi s2), (qs 28)] t D Q := vc_ok (cuts := [13, 34, 66, 113, 160, 168, 252, 281, 309, 343, 392, 429, 436, 485, 486]) 600 429 _ _ _ _ h
set_option maxRecDepth 100000 in
theorem lb98_436 {S : (Nat → Int32) × Nat} {t : qT} {D : qD} {Q : Int → qT → qD → Prop} {l1 l5 l6 l7 l8 l9 l10 l11 l12 l13 : Int} {o14 o15 : Option qV} (h :
chk (0 ≤ (4 + l7) ∧ (4 + l7) < 16)
(chk (qR l13)
  (chk (qR (D 28 (4 + l7)))
    (if l13 < (D 28 (4 + l7)) then
      (chk (0 ≤ (qusr l9 (1 + (9 * l13))) ∧ (qusr l9 (1 + (9 * l13))) < 2147483648)
        (chk (qR ((qusr l9 (1 + (9 * l13))) % 7))
          (if 4 < ((qusr l9 (1 + (9 * l13))) % 7) then
            (wp S 98 485 [some qx, some (qi l1), some (qs 28), some (qs 29), some (qs 30), some (qi l5), some (qi l6), some (qi l7), some (qi l8), some (qi l9), some (qi l10), some (qi l11), some (qi l12), some (qi l13), some (qi (qusr l9 (1 + (9 * l13)))), o15] [(qi 2), (qi ((3 * l7) + l13)), (qs 29)] t D Q)
            else
            (chk (0 ≤ (qusr l9 (1 + (9 * l13))) ∧ (qusr l9 (1 + (9 * l13))) < 2147483648)
              (wp S 98 485 [some qx, some (qi l1), some (qs 28), some (qs 29), some (qs 30), some (qi l5), some (qi l6), some (qi l7), some (qi l8), some (qi l9), some (qi l10), some (qi l11), some (qi l12), some (qi l13), some (qi (qusr l9 (1 + (9 * l13)))), o15] [(qi ((qusr l9 (1 + (9 * l13))) % 7)), (qi ((3 * l7) + l13)), (qs 29)] t D Q)))))
      else
      (wp S 98 66 [some qx, some (qi l1), some (qs 28), some (qs 29), some (qs 30), some (qi l5), some (qi l6), some (qi (l7 + 1)), some (qi l8), some (qi l9), some (qi l10), some (qi l11), some (qi l12), some (qi l13), o14, o15] [] t D Q))))) : wp S 98 436 [some qx, some (qi l1), some (qs 28), some (qs 29), some (qs 30), some (qi l5), some (qi l6), some (qi l7), some (qi l8), some (qi l9), some (qi l10), some (qi l11), some (qi l12), some (qi l13), o14, o15] [] t D Q := vc_ok (cuts := [13, 34, 66, 113, 160, 168, 252, 281, 309, 343, 392, 429, 436, 485, 486]) 600 436 _ _ _ _ h
set_option maxRecDepth 100000 in
theorem lb98_485 {S : (Nat → Int32) × Nat} {t : qT} {D : qD} {Q : Int → qT → qD → Prop} {l1 l5 l6 l7 l8 l9 l10 l11 l12 l13 l14 s0 s1 : Int} {o15 : Option qV} (h :
chk (0 ≤ s1 ∧ s1 < 9)
(wp S 98 486 [some qx, some (qi l1), some (qs 28), some (qs 29), some (qs 30), some (qi l5), some (qi l6), some (qi l7), some (qi l8), some (qi l9), some (qi l10), some (qi l11), some (qi l12), some (qi l13), some (qi l14), o15] [] t (up D 29 s1 s0) Q)) : wp S 98 485 [some qx, some (qi l1), some (qs 28), some (qs 29), some (qs 30), some (qi l5), some (qi l6), some (qi l7), some (qi l8), some (qi l9), some (qi l10), some (qi l11), some (qi l12), some (qi l13), some (qi l14), o15] [(qi s0), (qi s1), (qs 29)] t D Q := vc_ok (cuts := [13, 34, 66, 113, 160, 168, 252, 281, 309, 343, 392, 429, 436, 485, 486]) 600 485 _ _ _ _ h
set_option maxRecDepth 100000 in
theorem lb98_486 {S : (Nat → Int32) × Nat} {t : qT} {D : qD} {Q : Int → qT → qD → Prop} {l1 l5 l6 l7 l8 l9 l10 l11 l12 l13 l14 : Int} {o15 : Option qV} (h :
chk (0 ≤ ((7 + (3 * l7)) + l13) ∧ ((7 + (3 * l7)) + l13) < 16)
(chk (0 ≤ ((3 * l7) + l13) ∧ ((3 * l7) + l13) < 9)
  (wp S 99 0 [some (qi ((up D 28 ((7 + (3 * l7)) + l13) l5) 29 ((3 * l7) + l13)))] [] t (up D 28 ((7 + (3 * l7)) + l13) l5) (fun x1 t1 D1 =>
      (chk (0 ≤ l5 ∧ l5 < 64)
        (chk (0 ≤ l14 ∧ l14 < 2147483648)
          (chk (0 ≤ (l14 / 7) ∧ (l14 / 7) < 2147483648)
            (chk (0 ≤ (l5 + 1) ∧ (l5 + 1) < 64)
              (chk (0 ≤ l14 ∧ l14 < 2147483648)
                (chk (0 ≤ (l14 / 42) ∧ (l14 / 42) < 2147483648)
                  (chk (0 < (10 - ((l14 / 7) % 6)) ∧ (10 - ((l14 / 7) % 6)) < 2147483648)
                    (chk (0 ≤ ((l5 + 1) + 1) ∧ ((l5 + 1) + 1) < 64)
                      (chk (0 ≤ l14 ∧ l14 < 2147483648)
                        (chk (0 ≤ (l14 / 11) ∧ (l14 / 11) < 2147483648)
                        (chk (0 ≤ (((l5 + 1) + 1) + 1) ∧ (((l5 + 1) + 1) + 1) < 64)
                        (chk (0 ≤ l14 ∧ l14 < 2147483648)
                        (chk (0 ≤ (l14 / 5) ∧ (l14 / 5) < 2147483648)
                        (chk (0 ≤ ((((l5 + 1) + 1) + 1) + 1) ∧ ((((l5 + 1) + 1) + 1) + 1) < 64)
                        (wp S 98 436 [some qx, some (qi l1), some (qs 28), some (qs 29), some (qs 30), some (qi (((((l5 + 1) + 1) + 1) + 1) + 1)), some (qi l6), some (qi l7), some (qi l8), some (qi l9), some (qi l10), some (qi l11), some (qi l12), some (qi (l13 + 1)), some (qi l14), some (qi ((l14 / 7) % 6))] [] t1 (up (up (up (up (up D1 30 l5 x1) 30 (l5 + 1) (48 + ((l14 / 7) % 6))) 30 ((l5 + 1) + 1) ((48 + ((l14 / 7) % 6)) + ((l14 / 42) % (10 - ((l14 / 7) % 6))))) 30 (((l5 + 1) + 1) + 1) (48 + ((l14 / 11) % 5))) 30 ((((l5 + 1) + 1) + 1) + 1) (48 + ((l14 / 5) % 10))) Q))))))))))))))))))) : wp S 98 486 [some qx, some (qi l1), some (qs 28), some (qs 29), some (qs 30), some (qi l5), some (qi l6), some (qi l7), some (qi l8), some (qi l9), some (qi l10), some (qi l11), some (qi l12), some (qi l13), some (qi l14), o15] [] t D Q := vc_ok (cuts := [13, 34, 66, 113, 160, 168, 252, 281, 309, 343, 392, 429, 436, 485, 486]) 600 486 _ _ _ _ h
/-! 100 L_spell -/
set_option maxRecDepth 100000 in
theorem lb100_0 {S : (Nat → Int32) × Nat} {t : qT} {D : qD} {Q : Int → qT → qD → Prop} {l2 : Int} (h :
wp S 100 2 [some (qs 0), some (qs 30), some (qi l2), some (qi 0)] [] t D Q) : wp S 100 0 [some (qs 0), some (qs 30), some (qi l2), none] [] t D Q := vc_ok (cuts := [2]) 600 0 _ _ _ _ h
set_option maxRecDepth 100000 in
theorem lb100_2 {S : (Nat → Int32) × Nat} {t : qT} {D : qD} {Q : Int → qT → qD → Prop} {l2 l3 : Int} (h :
chk (qR l3)
(chk (qR l2)
  (if l3 < l2 then
    (chk (0 ≤ l3 ∧ l3 < 64)
      (wp S 64 0 [some (qs 0), some (qi (D 30 l3))] [] t D (fun x1 t1 D1 =>
          (chk (qR x1)
            (chk (qR (l3 + 1))
              (if x1 = (l3 + 1) then
                (wp S 100 2 [some (qs 0), some (qs 30), some (qi l2), some (qi (l3 + 1))] [] t1 D1 Q)
                else
                (Q 0 t1 D1)))))))
    else
    (Q 1 t D)))) : wp S 100 2 [some (qs 0), some (qs 30), some (qi l2), some (qi l3)] [] t D Q := vc_ok (cuts := [2]) 600 2 _ _ _ _ h
/-! 108 L_stands -/
set_option maxRecDepth 100000 in
theorem lb108_0 {S : (Nat → Int32) × Nat} {t : qT} {D : qD} {Q : Int → qT → qD → Prop} (h :
wp S 108 15 [some (qs 0), some (qs 28), some (qs 29), some (qs 30), some (qs 31), some (qs 32), some (qr t.2.2.1), some (qi 0), some (qi 0), some (qi 0), none, none] [] ((nwT t.1 t.2.2.1 (10, 6)), (nwP t.2.1 t.2.2.1), ((t.2.2.1 + 1), (t.2.2.2 + 6))) (upr D t.2.2.1 (fun _ => 0)) Q) : wp S 108 0 [some (qs 0), some (qs 28), some (qs 29), some (qs 30), some (qs 31), some (qs 32), none, none, none, none, none, none] [] t D Q := vc_ok (cuts := [15, 26, 47, 123, 160]) 600 0 _ _ _ _ h
set_option maxRecDepth 100000 in
theorem lb108_15 {S : (Nat → Int32) × Nat} {t : qT} {D : qD} {Q : Int → qT → qD → Prop} {l7 l8 l9 : Int} {l6 : Nat} {o10 o11 : Option qV} (h :
chk (qR l9)
(chk (qR (D 28 0))
  (if l9 < (D 28 0) then
    (wp S 108 26 [some (qs 0), some (qs 28), some (qs 29), some (qs 30), some (qs 31), some (qs 32), some (qr l6), some (qi l7), some (qi l8), some (qi l9), some (qi 0), o11] [] t D Q)
    else
    (wp S 109 0 [some (qs 0), some (qs 28), some (qs 30), some (qs 31), some (qs 32), none, none, none, none] [] t D (fun x1 t1 D1 =>
        (chk (qR x1)
          (if x1 = 0 then
            (Q 0 t1 D1)
            else
            (wp S 83 0 [some (qs 0), some (qi 0)] [] t1 D1 (fun x2 t2 D2 =>
                (chk (qR x2)
                  (chk (qR (D2 28 0))
                    (if x2 = (D2 28 0) then
                      (wp S 83 0 [some (qs 0), some (qi 1)] [] t2 D2 (fun x3 t3 D3 =>
                        (chk (qR x3)
                        (chk (qR l8)
                        (if x3 = l8 then
                        (wp S 83 0 [some (qs 0), some (qi 4)] [] t3 D3 (fun x4 t4 D4 =>
                        (chk (qR x4)
                        (chk (qR l7)
                        (if x4 = l7 then
                        (Q 1 t4 D4)
                        else
                        (Q 0 t4 D4))))))
                        else
                        (Q 0 t3 D3))))))
                      else
                      (Q 0 t2 D2))))))))))))) : wp S 108 15 [some (qs 0), some (qs 28), some (qs 29), some (qs 30), some (qs 31), some (qs 32), some (qr l6), some (qi l7), some (qi l8), some (qi l9), o10, o11] [] t D Q := vc_ok (cuts := [15, 26, 47, 123, 160]) 600 15 _ _ _ _ h
set_option maxRecDepth 100000 in
theorem lb108_26 {S : (Nat → Int32) × Nat} {t : qT} {D : qD} {Q : Int → qT → qD → Prop} {l7 l8 l9 l10 : Int} {l6 : Nat} {o11 : Option qV} (h :
chk (qR l10)
(if l10 < 10 then
  (wp S 101 0 [some (qs 28), some (qs 30), some (qi l9), some (qi l10), some (qr l6), none, none, none, none, none] [] t D (fun _ t1 D1 =>
      (wp S 108 47 [some (qs 0), some (qs 28), some (qs 29), some (qs 30), some (qs 31), some (qs 32), some (qr l6), some (qi l7), some (qi l8), some (qi l9), some (qi l10), some (qi 0)] [] t1 D1 Q)))
  else
  (wp S 108 123 [some (qs 0), some (qs 28), some (qs 29), some (qs 30), some (qs 31), some (qs 32), some (qr l6), some (qi l7), some (qi l8), some (qi l9), some (qi 0), o11] [] t D Q))) : wp S 108 26 [some (qs 0), some (qs 28), some (qs 29), some (qs 30), some (qs 31), some (qs 32), some (qr l6), some (qi l7), some (qi l8), some (qi l9), some (qi l10), o11] [] t D Q := vc_ok (cuts := [15, 26, 47, 123, 160]) 600 26 _ _ _ _ h
set_option maxRecDepth 100000 in
theorem lb108_47 {S : (Nat → Int32) × Nat} {t : qT} {D : qD} {Q : Int → qT → qD → Prop} {l7 l8 l9 l10 l11 : Int} {l6 : Nat} (h :
chk (qR l11)
(if l11 < 6 then
  (wp S 67 0 [some (qs 0), some (qi l9), some (qi l10), some (qi l11)] [] t D (fun x1 t1 D1 =>
      (chk ((t1.1 l6).1 = 10)
        (chk (0 ≤ l11 ∧ l11 < (t1.1 l6).2)
          (chk (qR x1)
            (chk (qR (D1 l6 l11))
              (if x1 = (D1 l6 l11) then
                (wp S 108 47 [some (qs 0), some (qs 28), some (qs 29), some (qs 30), some (qs 31), some (qs 32), some (qr l6), some (qi l7), some (qi l8), some (qi l9), some (qi l10), some (qi (l11 + 1))] [] t1 D1 Q)
                else
                (Q 0 t1 D1))))))))
  else
  (chk ((t.1 l6).1 = 10)
    (chk ((0 : Int) ≤ 0 ∧ 0 < (t.1 l6).2)
      (chk ((t.1 l6).1 = 10)
        (chk ((0 : Int) ≤ 1 ∧ 1 < (t.1 l6).2)
          (chk ((t.1 l6).1 = 10)
            (chk ((0 : Int) ≤ 2 ∧ 2 < (t.1 l6).2)
              (chk ((t.1 l6).1 = 10)
                (chk ((0 : Int) ≤ 3 ∧ 3 < (t.1 l6).2)
                  (chk (qR ((((D l6 0) + (D l6 1)) + (D l6 2)) + (D l6 3)))
                    (if (-4) < ((((D l6 0) + (D l6 1)) + (D l6 2)) + (D l6 3)) then
                      (wp S 108 26 [some (qs 0), some (qs 28), some (qs 29), some (qs 30), some (qs 31), some (qs 32), some (qr l6), some (qi (l7 + 1)), some (qi l8), some (qi l9), some (qi (l10 + 1)), some (qi l11)] [] t D Q)
                      else
                      (wp S 108 26 [some (qs 0), some (qs 28), some (qs 29), some (qs 30), some (qs 31), some (qs 32), some (qr l6), some (qi (l7 + 0)), some (qi l8), some (qi l9), some (qi (l10 + 1)), some (qi l11)] [] t D Q))))))))))))) : wp S 108 47 [some (qs 0), some (qs 28), some (qs 29), some (qs 30), some (qs 31), some (qs 32), some (qr l6), some (qi l7), some (qi l8), some (qi l9), some (qi l10), some (qi l11)] [] t D Q := vc_ok (cuts := [15, 26, 47, 123, 160]) 600 47 _ _ _ _ h
set_option maxRecDepth 100000 in
theorem lb108_123 {S : (Nat → Int32) × Nat} {t : qT} {D : qD} {Q : Int → qT → qD → Prop} {l7 l8 l9 l10 : Int} {l6 : Nat} {o11 : Option qV} (h :
chk (0 ≤ (4 + l9) ∧ (4 + l9) < 16)
(chk (qR l10)
  (chk (qR (D 28 (4 + l9)))
    (if l10 < (D 28 (4 + l9)) then
      (wp S 68 0 [some (qs 0), some (qi l9), some (qi l10), some (qi 0), none, none] [] t D (fun x1 t1 D1 =>
          (chk (0 ≤ ((3 * l9) + l10) ∧ ((3 * l9) + l10) < 9)
            (chk (qR x1)
              (chk (qR (D1 29 ((3 * l9) + l10)))
                (if x1 = (D1 29 ((3 * l9) + l10)) then
                  (wp S 108 160 [some (qs 0), some (qs 28), some (qs 29), some (qs 30), some (qs 31), some (qs 32), some (qr l6), some (qi l7), some (qi l8), some (qi l9), some (qi l10), some (qi 1)] [] t1 D1 Q)
                  else
                  (Q 0 t1 D1)))))))
      else
      (chk (0 ≤ (4 + l9) ∧ (4 + l9) < 16)
        (wp S 108 15 [some (qs 0), some (qs 28), some (qs 29), some (qs 30), some (qs 31), some (qs 32), some (qr l6), some (qi l7), some (qi (l8 + (D 28 (4 + l9)))), some (qi (l9 + 1)), some (qi l10), o11] [] t D Q)))))) : wp S 108 123 [some (qs 0), some (qs 28), some (qs 29), some (qs 30), some (qs 31), some (qs 32), some (qr l6), some (qi l7), some (qi l8), some (qi l9), some (qi l10), o11] [] t D Q := vc_ok (cuts := [15, 26, 47, 123, 160]) 600 123 _ _ _ _ h
set_option maxRecDepth 100000 in
theorem lb108_160 {S : (Nat → Int32) × Nat} {t : qT} {D : qD} {Q : Int → qT → qD → Prop} {l7 l8 l9 l10 l11 : Int} {l6 : Nat} (h :
chk (qR l11)
(if l11 < 5 then
  (wp S 68 0 [some (qs 0), some (qi l9), some (qi l10), some (qi l11), none, none] [] t D (fun x1 t1 D1 =>
      (chk (0 ≤ ((7 + (3 * l9)) + l10) ∧ ((7 + (3 * l9)) + l10) < 16)
        (chk (0 ≤ ((D1 28 ((7 + (3 * l9)) + l10)) + l11) ∧ ((D1 28 ((7 + (3 * l9)) + l10)) + l11) < 64)
          (chk (qR x1)
            (chk (qR ((D1 30 ((D1 28 ((7 + (3 * l9)) + l10)) + l11)) - 48))
              (if x1 = ((D1 30 ((D1 28 ((7 + (3 * l9)) + l10)) + l11)) - 48) then
                (wp S 108 160 [some (qs 0), some (qs 28), some (qs 29), some (qs 30), some (qs 31), some (qs 32), some (qr l6), some (qi l7), some (qi l8), some (qi l9), some (qi l10), some (qi (l11 + 1))] [] t1 D1 Q)
                else
                (Q 0 t1 D1))))))))
  else
  (wp S 108 123 [some (qs 0), some (qs 28), some (qs 29), some (qs 30), some (qs 31), some (qs 32), some (qr l6), some (qi l7), some (qi l8), some (qi l9), some (qi (l10 + 1)), some (qi l11)] [] t D Q))) : wp S 108 160 [some (qs 0), some (qs 28), some (qs 29), some (qs 30), some (qs 31), some (qs 32), some (qr l6), some (qi l7), some (qi l8), some (qi l9), some (qi l10), some (qi l11)] [] t D Q := vc_ok (cuts := [15, 26, 47, 123, 160]) 600 160 _ _ _ _ h
/-! 109 L_machine -/
set_option maxRecDepth 100000 in
theorem lb109_0 {S : (Nat → Int32) × Nat} {t : qT} {D : qD} {Q : Int → qT → qD → Prop} (h :
wp S 109 8 [some (qs 0), some (qs 28), some (qs 30), some (qs 31), some (qs 32), some (qr t.2.2.1), some (qi 0), none, none] [] ((nwT t.1 t.2.2.1 (10, 4)), (nwP t.2.1 t.2.2.1), ((t.2.2.1 + 1), (t.2.2.2 + 4))) (upr D t.2.2.1 (fun _ => 0)) Q) : wp S 109 0 [some (qs 0), some (qs 28), some (qs 30), some (qs 31), some (qs 32), none, none, none, none] [] t D Q := vc_ok (cuts := [8, 47, 88, 125]) 600 0 _ _ _ _ h
set_option maxRecDepth 100000 in
theorem lb109_8 {S : (Nat → Int32) × Nat} {t : qT} {D : qD} {Q : Int → qT → qD → Prop} {l6 : Int} {l5 : Nat} (h :
chk (qR l6)
(if l6 < 4 then
  (wp S 71 0 [some (qs 0), some (qi l6)] [] t D (fun x1 t1 D1 =>
      (chk (0 ≤ l6 ∧ l6 < 6)
        (chk (qR x1)
          (chk (qR (D1 31 l6))
            (if x1 = (D1 31 l6) then
              (chk (0 ≤ l6 ∧ l6 < 6)
                (chk ((t1.1 l5).1 = 10)
                  (chk (0 ≤ l6 ∧ l6 < (t1.1 l5).2)
                    (wp S 109 8 [some (qs 0), some (qs 28), some (qs 30), some (qs 31), some (qs 32), some (qr l5), some (qi (l6 + 1)), none, none] [] t1 (up D1 l5 l6 (D1 31 l6)) Q))))
              else
              (Q 0 t1 D1)))))))
  else
  (wp S 109 47 [some (qs 0), some (qs 28), some (qs 30), some (qs 31), some (qs 32), some (qr l5), some (qi 0), none, none] [] t D Q))) : wp S 109 8 [some (qs 0), some (qs 28), some (qs 30), some (qs 31), some (qs 32), some (qr l5), some (qi l6), none, none] [] t D Q := vc_ok (cuts := [8, 47, 88, 125]) 600 8 _ _ _ _ h
set_option maxRecDepth 100000 in
theorem lb109_47 {S : (Nat → Int32) × Nat} {t : qT} {D : qD} {Q : Int → qT → qD → Prop} {l6 : Int} {l5 : Nat} {o7 o8 : Option qV} (h :
chk (qR l6)
(chk (qR (D 31 4))
  (if l6 < (D 31 4) then
    (wp S 104 0 [some (qs 28), some (qs 30), some (qs 32), some (qi (((D 31 4) - 1) - l6)), some (qr l5), none, none] [] t D (fun _ t1 D1 =>
        (wp S 109 88 [some (qs 0), some (qs 28), some (qs 30), some (qs 31), some (qs 32), some (qr l5), some (qi l6), some (qi (8 * (((D 31 4) - 1) - l6))), some (qi 0)] [] t1 D1 Q)))
    else
    (wp S 83 0 [some (qs 0), some (qi 2)] [] t D (fun x2 t2 D2 =>
        (chk (qR x2)
          (chk (qR (D2 31 4))
            (if x2 = (D2 31 4) then
              (wp S 70 0 [some (qs 0), some (qi (D2 31 4)), some (qi 0), none] [] t2 D2 (fun x3 t3 D3 =>
                  (chk (qR x3)
                    (if x3 = (-101) then
                      (Q 1 t3 D3)
                      else
                      (Q 0 t3 D3)))))
              else
              (Q 0 t2 D2))))))))) : wp S 109 47 [some (qs 0), some (qs 28), some (qs 30), some (qs 31), some (qs 32), some (qr l5), some (qi l6), o7, o8] [] t D Q := vc_ok (cuts := [8, 47, 88, 125]) 600 47 _ _ _ _ h
set_option maxRecDepth 100000 in
theorem lb109_88 {S : (Nat → Int32) × Nat} {t : qT} {D : qD} {Q : Int → qT → qD → Prop} {l6 l7 l8 : Int} {l5 : Nat} (h :
chk (qR l8)
(if l8 < 8 then
  (wp S 70 0 [some (qs 0), some (qi l6), some (qi l8), none] [] t D (fun x1 t1 D1 =>
      (chk (0 ≤ (l7 + l8) ∧ (l7 + l8) < 64)
        (chk (qR x1)
          (chk (qR (D1 32 (l7 + l8)))
            (if x1 = (D1 32 (l7 + l8)) then
              (wp S 109 88 [some (qs 0), some (qs 28), some (qs 30), some (qs 31), some (qs 32), some (qr l5), some (qi l6), some (qi l7), some (qi (l8 + 1))] [] t1 D1 Q)
              else
              (Q 0 t1 D1)))))))
  else
  (wp S 109 125 [some (qs 0), some (qs 28), some (qs 30), some (qs 31), some (qs 32), some (qr l5), some (qi l6), some (qi l7), some (qi 0)] [] t D Q))) : wp S 109 88 [some (qs 0), some (qs 28), some (qs 30), some (qs 31), some (qs 32), some (qr l5), some (qi l6), some (qi l7), some (qi l8)] [] t D Q := vc_ok (cuts := [8, 47, 88, 125]) 600 88 _ _ _ _ h
set_option maxRecDepth 100000 in
theorem lb109_125 {S : (Nat → Int32) × Nat} {t : qT} {D : qD} {Q : Int → qT → qD → Prop} {l6 l7 l8 : Int} {l5 : Nat} (h :
chk (qR l8)
(if l8 < 4 then
  (wp S 70 0 [some (qs 0), some (qi l6), some (qi (8 + l8)), none] [] t D (fun x1 t1 D1 =>
      (chk ((t1.1 l5).1 = 10)
        (chk (0 ≤ l8 ∧ l8 < (t1.1 l5).2)
          (chk (qR x1)
            (chk (qR (D1 l5 l8))
              (if x1 = (D1 l5 l8) then
                (wp S 109 125 [some (qs 0), some (qs 28), some (qs 30), some (qs 31), some (qs 32), some (qr l5), some (qi l6), some (qi l7), some (qi (l8 + 1))] [] t1 D1 Q)
                else
                (Q 0 t1 D1))))))))
  else
  (wp S 109 47 [some (qs 0), some (qs 28), some (qs 30), some (qs 31), some (qs 32), some (qr l5), some (qi (l6 + 1)), some (qi l7), some (qi l8)] [] t D Q))) : wp S 109 125 [some (qs 0), some (qs 28), some (qs 30), some (qs 31), some (qs 32), some (qr l5), some (qi l6), some (qi l7), some (qi l8)] [] t D Q := vc_ok (cuts := [8, 47, 88, 125]) 600 125 _ _ _ _ h
/-! 111 L_act -/
set_option maxRecDepth 100000 in
theorem lb111_0 {S : (Nat → Int32) × Nat} {t : qT} {D : qD} {Q : Int → qT → qD → Prop} {l7 : Int} (h :
wp S 97 0 [some (qi l7), some (qi 16)] [] t D (fun x1 t1 D1 =>
  (chk (qR x1)
    (if x1 < 4 then
      (wp S 97 0 [some (qi (qshr l7 4)), some (qi (D1 28 0))] [] t1 (up D1 31 5 0) (fun x2 t2 D2 =>
          (chk (qR (D2 31 4))
            (if (D2 31 4) = 8 then
              (wp S 72 0 [some (qs 0), some (qi x2)] [] t2 D2 (fun x3 t3 D3 =>
                  (chk (qR x3)
                    (if x3 = (-104) then
                      (Q 1 t3 D3)
                      else
                      (Q 0 t3 D3)))))
              else
              (wp S 111 58 [some (qs 0), some (qs 28), some (qs 29), some (qs 30), some (qs 31), some (qs 32), some (qs 33), some (qi l7), some (qi x1), some (qi x2), none, none] [] t2 D2 Q)))))
      else
      (wp S 111 93 [some (qs 0), some (qs 28), some (qs 29), some (qs 30), some (qs 31), some (qs 32), some (qs 33), some (qi l7), some (qi x1), none, none, none] [] t1 (up D1 31 5 0) Q))))) : wp S 111 0 [some (qs 0), some (qs 28), some (qs 29), some (qs 30), some (qs 31), some (qs 32), some (qs 33), some (qi l7), none, none, none, none] [] t D Q := vc_ok (cuts := [58, 93, 123, 162, 179, 182, 213, 240, 307, 336, 379, 439, 483, 537]) 600 0 _ _ _ _ h
set_option maxRecDepth 100000 in
theorem lb111_58 {S : (Nat → Int32) × Nat} {t : qT} {D : qD} {Q : Int → qT → qD → Prop} {l7 l8 l9 : Int} (h :
wp S 103 0 [some (qs 28), some (qs 30), some (qs 31), some (qs 32), some (qi l9), none, none] [] t D (fun _ t1 D1 =>
  (wp S 72 0 [some (qs 0), some (qi l9)] [] t1 (up D1 31 5 1) (fun x2 t2 D2 =>
      (chk (qR x2)
        (chk (qR (D2 31 4))
          (if x2 = (D2 31 4) then
            (Q 1 t2 D2)
            else
            (Q 0 t2 D2)))))))) : wp S 111 58 [some (qs 0), some (qs 28), some (qs 29), some (qs 30), some (qs 31), some (qs 32), some (qs 33), some (qi l7), some (qi l8), some (qi l9), none, none] [] t D Q := vc_ok (cuts := [58, 93, 123, 162, 179, 182, 213, 240, 307, 336, 379, 439, 483, 537]) 600 58 _ _ _ _ h
set_option maxRecDepth 100000 in
theorem lb111_93 {S : (Nat → Int32) × Nat} {t : qT} {D : qD} {Q : Int → qT → qD → Prop} {l7 l8 : Int} (h :
chk (qR l8)
(if l8 < 7 then
  (wp S 97 0 [some (qi (qshr l7 9)), some (qi 3)] [] t D (fun x1 t1 D1 =>
      (chk (qR x1)
        (if x1 = 0 then
          (wp S 111 123 [some (qs 0), some (qs 28), some (qs 29), some (qs 30), some (qs 31), some (qs 32), some (qs 33), some (qi l7), some (qi l8), none, none, none] [(qi 9), (qi (qshr l7 4)), (qi 1)] t1 D1 Q)
          else
          (wp S 111 123 [some (qs 0), some (qs 28), some (qs 29), some (qs 30), some (qs 31), some (qs 32), some (qs 33), some (qi l7), some (qi l8), none, none, none] [(qi 2), (qi (qshr l7 4)), (qi 1)] t1 D1 Q)))))
  else
  (wp S 111 240 [some (qs 0), some (qs 28), some (qs 29), some (qs 30), some (qs 31), some (qs 32), some (qs 33), some (qi l7), some (qi l8), none, none, none] [] t D Q))) : wp S 111 93 [some (qs 0), some (qs 28), some (qs 29), some (qs 30), some (qs 31), some (qs 32), some (qs 33), some (qi l7), some (qi l8), none, none, none] [] t D Q := vc_ok (cuts := [58, 93, 123, 162, 179, 182, 213, 240, 307, 336, 379, 439, 483, 537]) 600 93 _ _ _ _ h
set_option maxRecDepth 100000 in
theorem lb111_123 {S : (Nat → Int32) × Nat} {t : qT} {D : qD} {Q : Int → qT → qD → Prop} {l7 l8 s0 s1 s2 : Int} (h :
wp S 97 0 [some (qi s1), some (qi s0)] [] t D (fun x1 t1 D1 =>
  (chk (qR (D1 31 4))
    (if (D1 31 4) = 0 then
      (wp S 111 162 [some (qs 0), some (qs 28), some (qs 29), some (qs 30), some (qs 31), some (qs 32), some (qs 33), some (qi l7), some (qi l8), some (qi (s2 + x1)), some (qi (8 * ((D1 31 4) - 1))), none] [] t1 D1 Q)
      else
      (chk (0 ≤ ((8 * ((D1 31 4) - 1)) + 1) ∧ ((8 * ((D1 31 4) - 1)) + 1) < 64)
        (chk (qR ((D1 32 ((8 * ((D1 31 4) - 1)) + 1)) + (s2 + x1)))
          (if 9 < ((D1 32 ((8 * ((D1 31 4) - 1)) + 1)) + (s2 + x1)) then
            (wp S 111 162 [some (qs 0), some (qs 28), some (qs 29), some (qs 30), some (qs 31), some (qs 32), some (qs 33), some (qi l7), some (qi l8), some (qi (s2 + x1)), some (qi (8 * ((D1 31 4) - 1))), none] [] t1 D1 Q)
            else
            (wp S 111 179 [some (qs 0), some (qs 28), some (qs 29), some (qs 30), some (qs 31), some (qs 32), some (qs 33), some (qi l7), some (qi l8), some (qi (s2 + x1)), some (qi (8 * ((D1 31 4) - 1))), none] [] t1 D1 Q)))))))) : wp S 111 123 [some (qs 0), some (qs 28), some (qs 29), some (qs 30), some (qs 31), some (qs 32), some (qs 33), some (qi l7), some (qi l8), none, none, none] [(qi s0), (qi s1), (qi s2)] t D Q := vc_ok (cuts := [58, 93, 123, 162, 179, 182, 213, 240, 307, 336, 379, 439, 483, 537]) 600 123 _ _ _ _ h
set_option maxRecDepth 100000 in
theorem lb111_162 {S : (Nat → Int32) × Nat} {t : qT} {D : qD} {Q : Int → qT → qD → Prop} {l7 l8 l9 l10 : Int} (h :
wp S 73 0 [some (qs 0), some (qi l9), none] [] t D (fun x1 t1 D1 =>
  (chk (qR x1)
    (if x1 = (-103) then
      (Q 1 t1 D1)
      else
      (Q 0 t1 D1))))) : wp S 111 162 [some (qs 0), some (qs 28), some (qs 29), some (qs 30), some (qs 31), some (qs 32), some (qs 33), some (qi l7), some (qi l8), some (qi l9), some (qi l10), none] [] t D Q := vc_ok (cuts := [58, 93, 123, 162, 179, 182, 213, 240, 307, 336, 379, 439, 483, 537]) 600 162 _ _ _ _ h
set_option maxRecDepth 100000 in
theorem lb111_179 {S : (Nat → Int32) × Nat} {t : qT} {D : qD} {Q : Int → qT → qD → Prop} {l7 l8 l9 l10 : Int} (h :
wp S 111 182 [some (qs 0), some (qs 28), some (qs 29), some (qs 30), some (qs 31), some (qs 32), some (qs 33), some (qi l7), some (qi l8), some (qi l9), some (qi l10), some (qi 0)] [] t D Q) : wp S 111 179 [some (qs 0), some (qs 28), some (qs 29), some (qs 30), some (qs 31), some (qs 32), some (qs 33), some (qi l7), some (qi l8), some (qi l9), some (qi l10), none] [] t D Q := vc_ok (cuts := [58, 93, 123, 162, 179, 182, 213, 240, 307, 336, 379, 439, 483, 537]) 600 179 _ _ _ _ h
set_option maxRecDepth 100000 in
theorem lb111_182 {S : (Nat → Int32) × Nat} {t : qT} {D : qD} {Q : Int → qT → qD → Prop} {l7 l8 l9 l10 l11 : Int} (h :
chk (qR l11)
(chk (qR l9)
  (if l11 < l9 then
    (chk (0 ≤ (l10 + 1) ∧ (l10 + 1) < 64)
      (wp S 102 0 [some (qs 28), some (qs 30), some (qs 31), some (qs 32), some (qi ((D 32 (l10 + 1)) + 1)), none, none, none, none] [] t D (fun _ t1 D1 =>
          (wp S 111 182 [some (qs 0), some (qs 28), some (qs 29), some (qs 30), some (qs 31), some (qs 32), some (qs 33), some (qi l7), some (qi l8), some (qi l9), some (qi l10), some (qi (l11 + 1))] [] t1 D1 Q))))
    else
    (wp S 111 213 [some (qs 0), some (qs 28), some (qs 29), some (qs 30), some (qs 31), some (qs 32), some (qs 33), some (qi l7), some (qi l8), some (qi l9), some (qi l10), some (qi l11)] [] t D Q)))) : wp S 111 182 [some (qs 0), some (qs 28), some (qs 29), some (qs 30), some (qs 31), some (qs 32), some (qs 33), some (qi l7), some (qi l8), some (qi l9), some (qi l10), some (qi l11)] [] t D Q := vc_ok (cuts := [58, 93, 123, 162, 179, 182, 213, 240, 307, 336, 379, 439, 483, 537]) 600 182 _ _ _ _ h
set_option maxRecDepth 100000 in
theorem lb111_213 {S : (Nat → Int32) × Nat} {t : qT} {D : qD} {Q : Int → qT → qD → Prop} {l7 l8 l9 l10 l11 : Int} (h :
wp S 73 0 [some (qs 0), some (qi l9), none] [] t (up D 31 5 1) (fun x1 t1 D1 =>
  (chk (0 ≤ (l10 + 1) ∧ (l10 + 1) < 64)
    (chk (qR x1)
      (chk (qR (D1 32 (l10 + 1)))
        (if x1 = (D1 32 (l10 + 1)) then
          (Q 1 t1 D1)
          else
          (Q 0 t1 D1))))))) : wp S 111 213 [some (qs 0), some (qs 28), some (qs 29), some (qs 30), some (qs 31), some (qs 32), some (qs 33), some (qi l7), some (qi l8), some (qi l9), some (qi l10), some (qi l11)] [] t D Q := vc_ok (cuts := [58, 93, 123, 162, 179, 182, 213, 240, 307, 336, 379, 439, 483, 537]) 600 213 _ _ _ _ h
set_option maxRecDepth 100000 in
theorem lb111_240 {S : (Nat → Int32) × Nat} {t : qT} {D : qD} {Q : Int → qT → qD → Prop} {l7 l8 : Int} (h :
chk (qR l8)
(if l8 < 11 then
  (wp S 97 0 [some (qi (qshr l7 4)), some (qi 4)] [] t D (fun x1 t1 D1 =>
      (chk (0 ≤ x1 ∧ x1 < 6)
        (wp S 97 0 [some (qi (qshr l7 6)), some (qi 1000)] [] t1 D1 (fun x2 t2 D2 =>
            (chk (0 ≤ x1 ∧ x1 < 6)
              (chk (0 ≤ x1 ∧ x1 < 6)
                (wp S 74 0 [some (qs 0), some (qi x1), some (qi ((up (up D2 31 x1 x2) 31 5 1) 31 x1)), none] [] t2 (up (up D2 31 x1 x2) 31 5 1) (fun x3 t3 D3 =>
                    (chk (qR x3)
                      (chk (qR (D1 31 x1))
                        (if x3 = (D1 31 x1) then
                        (Q 1 t3 D3)
                        else
                        (Q 0 t3 D3)))))))))))))
  else
  (wp S 111 307 [some (qs 0), some (qs 28), some (qs 29), some (qs 30), some (qs 31), some (qs 32), some (qs 33), some (qi l7), some (qi l8), none, none, none] [] t D Q))) : wp S 111 240 [some (qs 0), some (qs 28), some (qs 29), some (qs 30), some (qs 31), some (qs 32), some (qs 33), some (qi l7), some (qi l8), none, none, none] [] t D Q := vc_ok (cuts := [58, 93, 123, 162, 179, 182, 213, 240, 307, 336, 379, 439, 483, 537]) 600 240 _ _ _ _ h
set_option maxRecDepth 100000 in
theorem lb111_307 {S : (Nat → Int32) × Nat} {t : qT} {D : qD} {Q : Int → qT → qD → Prop} {l7 l8 : Int} (h :
chk (qR l8)
(if l8 = 11 then
  (chk (qR (D 31 4))
    (if (D 31 4) = 0 then
      (wp S 75 0 [some (qs 0)] [] t D (fun x1 t1 D1 =>
          (chk (qR x1)
            (if x1 = (-103) then
              (Q 1 t1 D1)
              else
              (Q 0 t1 D1)))))
      else
      (wp S 111 336 [some (qs 0), some (qs 28), some (qs 29), some (qs 30), some (qs 31), some (qs 32), some (qs 33), some (qi l7), some (qi l8), none, none, none] [] t D Q)))
  else
  (wp S 111 379 [some (qs 0), some (qs 28), some (qs 29), some (qs 30), some (qs 31), some (qs 32), some (qs 33), some (qi l7), some (qi l8), none, none, none] [] t D Q))) : wp S 111 307 [some (qs 0), some (qs 28), some (qs 29), some (qs 30), some (qs 31), some (qs 32), some (qs 33), some (qi l7), some (qi l8), none, none, none] [] t D Q := vc_ok (cuts := [58, 93, 123, 162, 179, 182, 213, 240, 307, 336, 379, 439, 483, 537]) 600 307 _ _ _ _ h
set_option maxRecDepth 100000 in
theorem lb111_336 {S : (Nat → Int32) × Nat} {t : qT} {D : qD} {Q : Int → qT → qD → Prop} {l7 l8 : Int} (h :
wp S 104 0 [some (qs 28), some (qs 30), some (qs 32), some (qi ((D 31 4) - 1)), some (qs 31), none, none] [] t (up D 31 4 ((D 31 4) - 1)) (fun _ t1 D1 =>
  (wp S 75 0 [some (qs 0)] [] t1 (up D1 31 5 1) (fun x2 t2 D2 =>
      (chk (qR x2)
        (chk (qR (D2 31 4))
          (if x2 = (D2 31 4) then
            (Q 1 t2 D2)
            else
            (Q 0 t2 D2)))))))) : wp S 111 336 [some (qs 0), some (qs 28), some (qs 29), some (qs 30), some (qs 31), some (qs 32), some (qs 33), some (qi l7), some (qi l8), none, none, none] [] t D Q := vc_ok (cuts := [58, 93, 123, 162, 179, 182, 213, 240, 307, 336, 379, 439, 483, 537]) 600 336 _ _ _ _ h
set_option maxRecDepth 100000 in
theorem lb111_379 {S : (Nat → Int32) × Nat} {t : qT} {D : qD} {Q : Int → qT → qD → Prop} {l7 l8 : Int} (h :
chk (qR l8)
(if l8 < 15 then
  (wp S 97 0 [some (qi (qshr l7 4)), some (qi 5)] [] t D (fun x1 t1 D1 =>
      (wp S 106 0 [some (qs 28), some (qs 29), some (qs 30), some (qs 31), some (qs 32), some (qi x1), some (qr t1.2.2.1), none, none, none, none, none, none] [] ((nwT t1.1 t1.2.2.1 (10, 32)), (nwP t1.2.1 t1.2.2.1), ((t1.2.2.1 + 1), (t1.2.2.2 + 32))) (upr D1 t1.2.2.1 (fun _ => 0)) (fun _ t2 D2 =>
          (chk ((t2.1 t1.2.2.1).1 = 10)
            (chk ((0 : Int) ≤ 0 ∧ 0 < (t2.1 t1.2.2.1).2)
              (chk (qR (D2 t1.2.2.1 0))
                (if (D2 t1.2.2.1 0) < 0 then
                  (wp S 76 0 [some (qs 0), some (qi x1), none] [] t2 D2 (fun x3 t3 D3 =>
                      (chk (qR x3)
                        (if x3 = (-1) then
                        (Q 1 t3 D3)
                        else
                        (Q 0 t3 D3)))))
                  else
                  (wp S 111 439 [some (qs 0), some (qs 28), some (qs 29), some (qs 30), some (qs 31), some (qs 32), some (qs 33), some (qi l7), some (qi l8), some (qi x1), some (qr t1.2.2.1), none] [] t2 D2 Q)))))))))
  else
  (wp S 111 483 [some (qs 0), some (qs 28), some (qs 29), some (qs 30), some (qs 31), some (qs 32), some (qs 33), some (qi l7), some (qi l8), none, none, none] [] t D Q))) : wp S 111 379 [some (qs 0), some (qs 28), some (qs 29), some (qs 30), some (qs 31), some (qs 32), some (qs 33), some (qi l7), some (qi l8), none, none, none] [] t D Q := vc_ok (cuts := [58, 93, 123, 162, 179, 182, 213, 240, 307, 336, 379, 439, 483, 537]) 600 379 _ _ _ _ h
set_option maxRecDepth 100000 in
theorem lb111_439 {S : (Nat → Int32) × Nat} {t : qT} {D : qD} {Q : Int → qT → qD → Prop} {l7 l8 l9 : Int} {l10 : Nat} (h :
wp S 110 0 [some (qs 33), some (qr l10), some (qi 32), none] [] t D (fun _ t1 D1 =>
  (wp S 107 0 [some (qs 28), some (qs 30), some (qs 31), some (qs 32), some (qs 33), none] [] t1 D1 (fun _ t2 D2 =>
      (wp S 76 0 [some (qs 0), some (qi l9), none] [] t2 (up D2 31 5 1) (fun x3 t3 D3 =>
          (chk (qR x3)
            (chk (qR (D3 33 0))
              (if x3 = (D3 33 0) then
                (Q 1 t3 D3)
                else
                (Q 0 t3 D3)))))))))) : wp S 111 439 [some (qs 0), some (qs 28), some (qs 29), some (qs 30), some (qs 31), some (qs 32), some (qs 33), some (qi l7), some (qi l8), some (qi l9), some (qr l10), none] [] t D Q := vc_ok (cuts := [58, 93, 123, 162, 179, 182, 213, 240, 307, 336, 379, 439, 483, 537]) 600 439 _ _ _ _ h
set_option maxRecDepth 100000 in
theorem lb111_483 {S : (Nat → Int32) × Nat} {t : qT} {D : qD} {Q : Int → qT → qD → Prop} {l7 l8 : Int} (h :
wp S 97 0 [some (qi (qshr l7 4)), some (qi (D 28 0))] [] t D (fun x1 t1 D1 =>
  (wp S 97 0 [some (qi (qshr l7 6)), some (qi 3)] [] t1 D1 (fun x2 t2 D2 =>
      (chk (0 ≤ (4 + x1) ∧ (4 + x1) < 16)
        (chk (qR x2)
          (chk (qR (D2 28 (4 + x1)))
            (if x2 < (D2 28 (4 + x1)) then
              (wp S 111 537 [some (qs 0), some (qs 28), some (qs 29), some (qs 30), some (qs 31), some (qs 32), some (qs 33), some (qi l7), some (qi l8), some (qi x1), some (qi x2), none] [] t2 D2 Q)
              else
              (wp S 77 0 [some (qs 0), some (qi x1), some (qi x2), some (qi 0), none] [] t2 D2 (fun x3 t3 D3 =>
                  (chk (qR x3)
                    (if x3 = (-101) then
                      (Q 1 t3 D3)
                      else
                      (Q 0 t3 D3))))))))))))) : wp S 111 483 [some (qs 0), some (qs 28), some (qs 29), some (qs 30), some (qs 31), some (qs 32), some (qs 33), some (qi l7), some (qi l8), none, none, none] [] t D Q := vc_ok (cuts := [58, 93, 123, 162, 179, 182, 213, 240, 307, 336, 379, 439, 483, 537]) 600 483 _ _ _ _ h
set_option maxRecDepth 100000 in
theorem lb111_537 {S : (Nat → Int32) × Nat} {t : qT} {D : qD} {Q : Int → qT → qD → Prop} {l7 l8 l9 l10 : Int} (h :
chk (0 ≤ ((3 * l9) + l10) ∧ ((3 * l9) + l10) < 9)
(wp S 97 0 [some (qi (qshr l7 8)), some (qi 5)] [] t D (fun x1 t1 D1 =>
    (chk (0 ≤ ((3 * l9) + l10) ∧ ((3 * l9) + l10) < 9)
      (chk (0 ≤ ((3 * l9) + l10) ∧ ((3 * l9) + l10) < 9)
        (wp S 77 0 [some (qs 0), some (qi l9), some (qi l10), some (qi ((up (up D1 29 ((3 * l9) + l10) x1) 31 5 1) 29 ((3 * l9) + l10))), none] [] t1 (up (up D1 29 ((3 * l9) + l10) x1) 31 5 1) (fun x2 t2 D2 =>
            (chk (qR x2)
              (chk (qR (D 29 ((3 * l9) + l10)))
                (if x2 = (D 29 ((3 * l9) + l10)) then
                  (Q 1 t2 D2)
                  else
                  (Q 0 t2 D2))))))))))) : wp S 111 537 [some (qs 0), some (qs 28), some (qs 29), some (qs 30), some (qs 31), some (qs 32), some (qs 33), some (qi l7), some (qi l8), some (qi l9), some (qi l10), none] [] t D Q := vc_ok (cuts := [58, 93, 123, 162, 179, 182, 213, 240, 307, 336, 379, 439, 483, 537]) 600 537 _ _ _ _ h
/-! 112 L_done -/
set_option maxRecDepth 100000 in
theorem lb112_0 {S : (Nat → Int32) × Nat} {t : qT} {D : qD} {Q : Int → qT → qD → Prop} (h :
wp S 80 0 [some (qs 0), some (qi (-1))] [] t D (fun x1 t1 D1 =>
  (chk (qR x1)
    (chk (qR (D1 33 2))
      (if x1 = (D1 33 2) then
        (wp S 112 15 [some (qs 0), some (qs 33), some (qi 0)] [] t1 D1 Q)
        else
        (Q 0 t1 D1)))))) : wp S 112 0 [some (qs 0), some (qs 33), none] [] t D Q := vc_ok (cuts := [15]) 600 0 _ _ _ _ h
set_option maxRecDepth 100000 in
theorem lb112_15 {S : (Nat → Int32) × Nat} {t : qT} {D : qD} {Q : Int → qT → qD → Prop} {l2 : Int} (h :
chk (qR l2)
(chk (qR (D 33 2))
  (if l2 < (D 33 2) then
    (wp S 80 0 [some (qs 0), some (qi l2)] [] t D (fun x1 t1 D1 =>
        (chk (0 ≤ (3 + l2) ∧ (3 + l2) < 32)
          (chk (qR x1)
            (chk (qR (D1 33 (3 + l2)))
              (if x1 = (D1 33 (3 + l2)) then
                (wp S 112 15 [some (qs 0), some (qs 33), some (qi (l2 + 1))] [] t1 D1 Q)
                else
                (Q 0 t1 D1)))))))
    else
    (Q 1 t D)))) : wp S 112 15 [some (qs 0), some (qs 33), some (qi l2)] [] t D Q := vc_ok (cuts := [15]) 600 15 _ _ _ _ h
/-! 113 L_search -/
set_option maxRecDepth 100000 in
theorem lb113_0 {S : (Nat → Int32) × Nat} {t : qT} {D : qD} {Q : Int → qT → qD → Prop} (h :
wp S 113 12 [some (qs 0), some (qs 28), some (qs 29), some (qs 30), some (qs 31), some (qs 32), some (qr t.2.2.1), some (qi 0), some (qi 0)] [] ((nwT t.1 t.2.2.1 (10, 32)), (nwP t.2.1 t.2.2.1), ((t.2.2.1 + 1), (t.2.2.2 + 32))) (upr D t.2.2.1 (fun _ => 0)) Q) : wp S 113 0 [some (qs 0), some (qs 28), some (qs 29), some (qs 30), some (qs 31), some (qs 32), none, none, none] [] t D Q := vc_ok (cuts := [12]) 600 0 _ _ _ _ h
set_option maxRecDepth 100000 in
theorem lb113_12 {S : (Nat → Int32) × Nat} {t : qT} {D : qD} {Q : Int → qT → qD → Prop} {l7 l8 : Int} {l6 : Nat} (h :
chk (qR l8)
(if l8 < 5 then
  (wp S 106 0 [some (qs 28), some (qs 29), some (qs 30), some (qs 31), some (qs 32), some (qi l8), some (qr l6), none, none, none, none, none, none] [] t D (fun _ t1 D1 =>
      (chk ((t1.1 l6).1 = 10)
        (chk ((0 : Int) ≤ 0 ∧ 0 < (t1.1 l6).2)
          (chk (qR (D1 l6 0))
            (if (D1 l6 0) < 0 then
              (wp S 78 0 [some (qs 0), some (qi l8), some (qi 0), none] [] t1 D1 (fun x2 t2 D2 =>
                  (chk ((t2.1 l6).1 = 10)
                    (chk ((0 : Int) ≤ 0 ∧ 0 < (t2.1 l6).2)
                      (chk (qR x2)
                        (chk (qR (D2 l6 0))
                        (if x2 = (D2 l6 0) then
                        (wp S 78 0 [some (qs 0), some (qi l8), some (qi 1), none] [] t2 D2 (fun x3 t3 D3 =>
                        (chk ((t3.1 l6).1 = 10)
                        (chk ((0 : Int) ≤ 1 ∧ 1 < (t3.1 l6).2)
                        (chk (qR x3)
                        (chk (qR (D3 l6 1))
                        (if x3 = (D3 l6 1) then
                        (wp S 78 0 [some (qs 0), some (qi l8), some (qi 2), none] [] t3 D3 (fun x4 t4 D4 =>
                        (chk ((t4.1 l6).1 = 10)
                        (chk ((0 : Int) ≤ 0 ∧ 0 < (t4.1 l6).2)
                        (chk (qR (D4 l6 0))
                        (if (D4 l6 0) < 0 then
                        (chk (qR x4)
                        (if x4 = (-1) then
                        (wp S 113 12 [some (qs 0), some (qs 28), some (qs 29), some (qs 30), some (qs 31), some (qs 32), some (qr l6), some (qi (qor l7 (qshl 1 l8))), some (qi (l8 + 1))] [] t4 D4 Q)
                        else
                        (Q 0 t4 D4)))
                        else
                        (chk ((t4.1 l6).1 = 10)
                        (chk ((0 : Int) ≤ 2 ∧ 2 < (t4.1 l6).2)
                        (chk (qR x4)
                        (chk (qR (D4 l6 2))
                        (if x4 = (D4 l6 2) then
                        (wp S 113 12 [some (qs 0), some (qs 28), some (qs 29), some (qs 30), some (qs 31), some (qs 32), some (qr l6), some (qi (qor l7 (qshl 1 l8))), some (qi (l8 + 1))] [] t4 D4 Q)
                        else
                        (Q 0 t4 D4))))))))))))
                        else
                        (Q 0 t3 D3))))))))
                        else
                        (Q 0 t2 D2))))))))
              else
              (wp S 78 0 [some (qs 0), some (qi l8), some (qi 0), none] [] t1 D1 (fun x5 t5 D5 =>
                  (chk ((t5.1 l6).1 = 10)
                    (chk ((0 : Int) ≤ 0 ∧ 0 < (t5.1 l6).2)
                      (chk (qR x5)
                        (chk (qR (D5 l6 0))
                        (if x5 = (D5 l6 0) then
                        (wp S 78 0 [some (qs 0), some (qi l8), some (qi 1), none] [] t5 D5 (fun x6 t6 D6 =>
                        (chk ((t6.1 l6).1 = 10)
                        (chk ((0 : Int) ≤ 1 ∧ 1 < (t6.1 l6).2)
                        (chk (qR x6)
                        (chk (qR (D6 l6 1))
                        (if x6 = (D6 l6 1) then
                        (wp S 78 0 [some (qs 0), some (qi l8), some (qi 2), none] [] t6 D6 (fun x7 t7 D7 =>
                        (chk ((t7.1 l6).1 = 10)
                        (chk ((0 : Int) ≤ 0 ∧ 0 < (t7.1 l6).2)
                        (chk (qR (D7 l6 0))
                        (if (D7 l6 0) < 0 then
                        (chk (qR x7)
                        (if x7 = (-1) then
                        (wp S 113 12 [some (qs 0), some (qs 28), some (qs 29), some (qs 30), some (qs 31), some (qs 32), some (qr l6), some (qi l7), some (qi (l8 + 1))] [] t7 D7 Q)
                        else
                        (Q 0 t7 D7)))
                        else
                        (chk ((t7.1 l6).1 = 10)
                        (chk ((0 : Int) ≤ 2 ∧ 2 < (t7.1 l6).2)
                        (chk (qR x7)
                        (chk (qR (D7 l6 2))
                        (if x7 = (D7 l6 2) then
                        (wp S 113 12 [some (qs 0), some (qs 28), some (qs 29), some (qs 30), some (qs 31), some (qs 32), some (qr l6), some (qi l7), some (qi (l8 + 1))] [] t7 D7 Q)
                        else
                        (Q 0 t7 D7))))))))))))
                        else
                        (Q 0 t6 D6))))))))
                        else
                        (Q 0 t5 D5))))))))))))))
  else
  (wp S 79 0 [some (qs 0), none, none] [] t D (fun x8 t8 D8 =>
      (chk (qR x8)
        (chk (qR l7)
          (if x8 = l7 then
            (Q 1 t8 D8)
            else
            (Q 0 t8 D8)))))))) : wp S 113 12 [some (qs 0), some (qs 28), some (qs 29), some (qs 30), some (qs 31), some (qs 32), some (qr l6), some (qi l7), some (qi l8)] [] t D Q := vc_ok (cuts := [12]) 600 12 _ _ _ _ h
/-! 114 L_drawn -/
set_option maxRecDepth 100000 in
theorem lb114_0 {S : (Nat → Int32) × Nat} {t : qT} {D : qD} {Q : Int → qT → qD → Prop} {l6 l7 : Int} (h :
wp S 110 0 [some (qr t.2.2.1), some (qs 31), some (qi 6), none] [] ((nwT (nwT (nwT t.1 t.2.2.1 (10, 6)) (t.2.2.1 + 1) (10, 64)) ((t.2.2.1 + 1) + 1) (10, 32)), (nwP (nwP (nwP t.2.1 t.2.2.1) (t.2.2.1 + 1)) ((t.2.2.1 + 1) + 1)), ((((t.2.2.1 + 1) + 1) + 1), (((t.2.2.2 + 6) + 64) + 32))) (upr (upr (upr D t.2.2.1 (fun _ => 0)) (t.2.2.1 + 1) (fun _ => 0)) ((t.2.2.1 + 1) + 1) (fun _ => 0)) (fun _ t1 D1 =>
  (wp S 110 0 [some (qr (t.2.2.1 + 1)), some (qs 32), some (qi 64), none] [] t1 D1 (fun _ t2 D2 =>
      (chk (qR l7)
        (wp S 114 47 [some (qs 0), some (qs 28), some (qs 29), some (qs 30), some (qs 31), some (qs 32), some (qi l6), some (qi l7), some (qr t.2.2.1), some (qr (t.2.2.1 + 1)), some (qr ((t.2.2.1 + 1) + 1)), some (ql l7), none, some (qi 0), some (qi 0), none, none] [] t2 D2 Q)))))) : wp S 114 0 [some (qs 0), some (qs 28), some (qs 29), some (qs 30), some (qs 31), some (qs 32), some (qi l6), some (qi l7), none, none, none, none, none, none, none, none, none] [] t D Q := vc_ok (cuts := [47, 132, 139, 167, 172, 197, 226, 267, 273]) 600 0 _ _ _ _ h
set_option maxRecDepth 100000 in
theorem lb114_47 {S : (Nat → Int32) × Nat} {t : qT} {D : qD} {Q : Int → qT → qD → Prop} {l6 l7 l11 l13 l14 : Int} {l8 l9 l10 : Nat} {o15 o16 : Option qV} (h :
chk (qR l14)
(chk (qR l6)
  (if l14 < l6 then
    (wp S 115 0 [some (ql l11), none] [] t D (fun x1 t1 D1 =>
        (chk (0 ≤ x1 ∧ x1 < 9223372036854775808)
          (chk (0 ≤ (x1 / 65536) ∧ (x1 / 65536) < 9223372036854775808)
            (chk (qR ((x1 / 65536) % 4))
              (if ((x1 / 65536) % 4) = 1 then
                (chk ((t1.1 l8).1 = 10)
                  (chk ((0 : Int) ≤ 4 ∧ 4 < (t1.1 l8).2)
                    (chk (qR (D1 l8 4))
                      (if 0 < (D1 l8 4) then
                        (chk ((t1.1 l8).1 = 10)
                        (chk ((0 : Int) ≤ 4 ∧ 4 < (t1.1 l8).2)
                        (chk ((t1.1 l9).1 = 10)
                        (chk (0 ≤ ((8 * (D1 l8 4)) - 7) ∧ ((8 * (D1 l8 4)) - 7) < (t1.1 l9).2)
                        (chk (qR (D1 l9 ((8 * (D1 l8 4)) - 7)))
                        (if (D1 l9 ((8 * (D1 l8 4)) - 7)) < 9 then
                        (chk ((t1.1 l8).1 = 10)
                        (chk ((0 : Int) ≤ 4 ∧ 4 < (t1.1 l8).2)
                        (chk ((t1.1 l9).1 = 10)
                        (chk (0 ≤ ((8 * (D1 l8 4)) - 7) ∧ ((8 * (D1 l8 4)) - 7) < (t1.1 l9).2)
                        (wp S 102 0 [some (qs 28), some (qs 30), some (qr l8), some (qr l9), some (qi ((D1 l9 ((8 * (D1 l8 4)) - 7)) + 1)), none, none, none, none] [] t1 D1 (fun _ t2 D2 =>
                        (wp S 114 267 [some (qs 0), some (qs 28), some (qs 29), some (qs 30), some (qs 31), some (qs 32), some (qi l6), some (qi l7), some (qr l8), some (qr l9), some (qr l10), some (ql x1), none, some (qi l13), some (qi l14), some (qi ((x1 / 65536) % 4)), o16] [] t2 D2 Q)))))))
                        else
                        (wp S 114 267 [some (qs 0), some (qs 28), some (qs 29), some (qs 30), some (qs 31), some (qs 32), some (qi l6), some (qi l7), some (qr l8), some (qr l9), some (qr l10), some (ql x1), none, some (qi l13), some (qi l14), some (qi ((x1 / 65536) % 4)), o16] [] t1 D1 Q)))))))
                        else
                        (wp S 114 267 [some (qs 0), some (qs 28), some (qs 29), some (qs 30), some (qs 31), some (qs 32), some (qi l6), some (qi l7), some (qr l8), some (qr l9), some (qr l10), some (ql x1), none, some (qi l13), some (qi l14), some (qi ((x1 / 65536) % 4)), o16] [] t1 D1 Q)))))
                else
                (wp S 114 132 [some (qs 0), some (qs 28), some (qs 29), some (qs 30), some (qs 31), some (qs 32), some (qi l6), some (qi l7), some (qr l8), some (qr l9), some (qr l10), some (ql x1), none, some (qi l13), some (qi l14), some (qi ((x1 / 65536) % 4)), o16] [] t1 D1 Q)))))))
    else
    (wp S 114 273 [some (qs 0), some (qs 28), some (qs 29), some (qs 30), some (qs 31), some (qs 32), some (qi l6), some (qi l7), some (qr l8), some (qr l9), some (qr l10), some (ql l11), none, some (qi l13), some (qi l14), o15, o16] [] t D Q)))) : wp S 114 47 [some (qs 0), some (qs 28), some (qs 29), some (qs 30), some (qs 31), some (qs 32), some (qi l6), some (qi l7), some (qr l8), some (qr l9), some (qr l10), some (ql l11), none, some (qi l13), some (qi l14), o15, o16] [] t D Q := vc_ok (cuts := [47, 132, 139, 167, 172, 197, 226, 267, 273]) 600 47 _ _ _ _ h
set_option maxRecDepth 100000 in
theorem lb114_132 {S : (Nat → Int32) × Nat} {t : qT} {D : qD} {Q : Int → qT → qD → Prop} {l6 l7 l11 l13 l14 l15 : Int} {l8 l9 l10 : Nat} {o16 : Option qV} (h :
wp S 115 0 [some (ql l11), none] [] t D (fun x1 t1 D1 =>
  (wp S 114 139 [some (qs 0), some (qs 28), some (qs 29), some (qs 30), some (qs 31), some (qs 32), some (qi l6), some (qi l7), some (qr l8), some (qr l9), some (qr l10), some (ql x1), none, some (qi l13), some (qi l14), some (qi l15), o16] [] t1 D1 Q))) : wp S 114 132 [some (qs 0), some (qs 28), some (qs 29), some (qs 30), some (qs 31), some (qs 32), some (qi l6), some (qi l7), some (qr l8), some (qr l9), some (qr l10), some (ql l11), none, some (qi l13), some (qi l14), some (qi l15), o16] [] t D Q := vc_ok (cuts := [47, 132, 139, 167, 172, 197, 226, 267, 273]) 600 132 _ _ _ _ h
set_option maxRecDepth 100000 in
theorem lb114_139 {S : (Nat → Int32) × Nat} {t : qT} {D : qD} {Q : Int → qT → qD → Prop} {l6 l7 l11 l13 l14 l15 : Int} {l8 l9 l10 : Nat} {o16 : Option qV} (h :
chk (0 ≤ l11 ∧ l11 < 9223372036854775808)
(chk (qR l15)
  (if l15 = 0 then
    (wp S 114 167 [some (qs 0), some (qs 28), some (qs 29), some (qs 30), some (qs 31), some (qs 32), some (qi l6), some (qi l7), some (qr l8), some (qr l9), some (qr l10), some (ql l11), none, some (qi l13), some (qi l14), some (qi l15), o16] [(qi (D 28 0)), (ql (l11 / 65536))] t D Q)
    else
    (chk (qR l15)
      (if l15 = 2 then
        (wp S 114 167 [some (qs 0), some (qs 28), some (qs 29), some (qs 30), some (qs 31), some (qs 32), some (qi l6), some (qi l7), some (qr l8), some (qr l9), some (qr l10), some (ql l11), none, some (qi l13), some (qi l14), some (qi l15), o16] [(qi 4), (ql (l11 / 65536))] t D Q)
        else
        (wp S 114 167 [some (qs 0), some (qs 28), some (qs 29), some (qs 30), some (qs 31), some (qs 32), some (qi l6), some (qi l7), some (qr l8), some (qr l9), some (qr l10), some (ql l11), none, some (qi l13), some (qi l14), some (qi l15), o16] [(qi 5), (ql (l11 / 65536))] t D Q)))))) : wp S 114 139 [some (qs 0), some (qs 28), some (qs 29), some (qs 30), some (qs 31), some (qs 32), some (qi l6), some (qi l7), some (qr l8), some (qr l9), some (qr l10), some (ql l11), none, some (qi l13), some (qi l14), some (qi l15), o16] [] t D Q := vc_ok (cuts := [47, 132, 139, 167, 172, 197, 226, 267, 273]) 600 139 _ _ _ _ h
set_option maxRecDepth 100000 in
theorem lb114_167 {S : (Nat → Int32) × Nat} {t : qT} {D : qD} {Q : Int → qT → qD → Prop} {l6 l7 l11 l13 l14 l15 s0 s1 : Int} {l8 l9 l10 : Nat} {o16 : Option qV} (h :
chk (qR s0)
(chk (0 ≤ s1 ∧ s1 < 9223372036854775808)
  (chk (0 < s0 ∧ s0 < 9223372036854775808)
    (wp S 114 172 [some (qs 0), some (qs 28), some (qs 29), some (qs 30), some (qs 31), some (qs 32), some (qi l6), some (qi l7), some (qr l8), some (qr l9), some (qr l10), some (ql l11), none, some (qi l13), some (qi l14), some (qi l15), some (qi (s1 % s0))] [] t D Q)))) : wp S 114 167 [some (qs 0), some (qs 28), some (qs 29), some (qs 30), some (qs 31), some (qs 32), some (qi l6), some (qi l7), some (qr l8), some (qr l9), some (qr l10), some (ql l11), none, some (qi l13), some (qi l14), some (qi l15), o16] [(qi s0), (ql s1)] t D Q := vc_ok (cuts := [47, 132, 139, 167, 172, 197, 226, 267, 273]) 600 167 _ _ _ _ h
set_option maxRecDepth 100000 in
theorem lb114_172 {S : (Nat → Int32) × Nat} {t : qT} {D : qD} {Q : Int → qT → qD → Prop} {l6 l7 l11 l13 l14 l15 l16 : Int} {l8 l9 l10 : Nat} (h :
chk (qR l15)
(if l15 = 0 then
  (chk ((t.1 l8).1 = 10)
    (chk ((0 : Int) ≤ 4 ∧ 4 < (t.1 l8).2)
      (chk (qR (D l8 4))
        (if (D l8 4) < 8 then
          (wp S 103 0 [some (qs 28), some (qs 30), some (qr l8), some (qr l9), some (qi l16), none, none] [] t D (fun _ t1 D1 =>
              (wp S 114 197 [some (qs 0), some (qs 28), some (qs 29), some (qs 30), some (qs 31), some (qs 32), some (qi l6), some (qi l7), some (qr l8), some (qr l9), some (qr l10), some (ql l11), none, some (qi l13), some (qi l14), some (qi l15), some (qi l16)] [] t1 D1 Q)))
          else
          (wp S 114 197 [some (qs 0), some (qs 28), some (qs 29), some (qs 30), some (qs 31), some (qs 32), some (qi l6), some (qi l7), some (qr l8), some (qr l9), some (qr l10), some (ql l11), none, some (qi l13), some (qi l14), some (qi l15), some (qi l16)] [] t D Q)))))
  else
  (wp S 114 197 [some (qs 0), some (qs 28), some (qs 29), some (qs 30), some (qs 31), some (qs 32), some (qi l6), some (qi l7), some (qr l8), some (qr l9), some (qr l10), some (ql l11), none, some (qi l13), some (qi l14), some (qi l15), some (qi l16)] [] t D Q))) : wp S 114 172 [some (qs 0), some (qs 28), some (qs 29), some (qs 30), some (qs 31), some (qs 32), some (qi l6), some (qi l7), some (qr l8), some (qr l9), some (qr l10), some (ql l11), none, some (qi l13), some (qi l14), some (qi l15), some (qi l16)] [] t D Q := vc_ok (cuts := [47, 132, 139, 167, 172, 197, 226, 267, 273]) 600 172 _ _ _ _ h
set_option maxRecDepth 100000 in
theorem lb114_197 {S : (Nat → Int32) × Nat} {t : qT} {D : qD} {Q : Int → qT → qD → Prop} {l6 l7 l11 l13 l14 l15 l16 : Int} {l8 l9 l10 : Nat} (h :
chk (qR l15)
(if l15 = 2 then
  (wp S 115 0 [some (ql l11), none] [] t D (fun x1 t1 D1 =>
      (chk (0 ≤ x1 ∧ x1 < 9223372036854775808)
        (chk (0 ≤ (x1 / 65536) ∧ (x1 / 65536) < 9223372036854775808)
          (chk ((t1.1 l8).1 = 10)
            (chk (0 ≤ l16 ∧ l16 < (t1.1 l8).2)
              (wp S 114 226 [some (qs 0), some (qs 28), some (qs 29), some (qs 30), some (qs 31), some (qs 32), some (qi l6), some (qi l7), some (qr l8), some (qr l9), some (qr l10), some (ql x1), none, some (qi l13), some (qi l14), some (qi l15), some (qi l16)] [] t1 (up D1 l8 l16 ((x1 / 65536) % 1000)) Q)))))))
  else
  (wp S 114 226 [some (qs 0), some (qs 28), some (qs 29), some (qs 30), some (qs 31), some (qs 32), some (qi l6), some (qi l7), some (qr l8), some (qr l9), some (qr l10), some (ql l11), none, some (qi l13), some (qi l14), some (qi l15), some (qi l16)] [] t D Q))) : wp S 114 197 [some (qs 0), some (qs 28), some (qs 29), some (qs 30), some (qs 31), some (qs 32), some (qi l6), some (qi l7), some (qr l8), some (qr l9), some (qr l10), some (ql l11), none, some (qi l13), some (qi l14), some (qi l15), some (qi l16)] [] t D Q := vc_ok (cuts := [47, 132, 139, 167, 172, 197, 226, 267, 273]) 600 197 _ _ _ _ h
set_option maxRecDepth 100000 in
theorem lb114_226 {S : (Nat → Int32) × Nat} {t : qT} {D : qD} {Q : Int → qT → qD → Prop} {l6 l7 l11 l13 l14 l15 l16 : Int} {l8 l9 l10 : Nat} (h :
chk (qR l15)
(if l15 = 3 then
  (wp S 106 0 [some (qs 28), some (qs 29), some (qs 30), some (qr l8), some (qr l9), some (qi l16), some (qr l10), none, none, none, none, none, none] [] t D (fun _ t1 D1 =>
      (chk ((t1.1 l10).1 = 10)
        (chk ((0 : Int) ≤ 0 ∧ 0 < (t1.1 l10).2)
          (chk (qR (D1 l10 0))
            (if (D1 l10 0) < 0 then
              (wp S 114 267 [some (qs 0), some (qs 28), some (qs 29), some (qs 30), some (qs 31), some (qs 32), some (qi l6), some (qi l7), some (qr l8), some (qr l9), some (qr l10), some (ql l11), none, some (qi l13), some (qi l14), some (qi l15), some (qi l16)] [] t1 D1 Q)
              else
              (wp S 107 0 [some (qs 28), some (qs 30), some (qr l8), some (qr l9), some (qr l10), none] [] t1 D1 (fun _ t2 D2 =>
                  (wp S 114 267 [some (qs 0), some (qs 28), some (qs 29), some (qs 30), some (qs 31), some (qs 32), some (qi l6), some (qi l7), some (qr l8), some (qr l9), some (qr l10), some (ql l11), none, some (qi (l13 + 1)), some (qi l14), some (qi l15), some (qi l16)] [] t2 D2 Q)))))))))
  else
  (wp S 114 267 [some (qs 0), some (qs 28), some (qs 29), some (qs 30), some (qs 31), some (qs 32), some (qi l6), some (qi l7), some (qr l8), some (qr l9), some (qr l10), some (ql l11), none, some (qi l13), some (qi l14), some (qi l15), some (qi l16)] [] t D Q))) : wp S 114 226 [some (qs 0), some (qs 28), some (qs 29), some (qs 30), some (qs 31), some (qs 32), some (qi l6), some (qi l7), some (qr l8), some (qr l9), some (qr l10), some (ql l11), none, some (qi l13), some (qi l14), some (qi l15), some (qi l16)] [] t D Q := vc_ok (cuts := [47, 132, 139, 167, 172, 197, 226, 267, 273]) 600 226 _ _ _ _ h
set_option maxRecDepth 100000 in
theorem lb114_267 {S : (Nat → Int32) × Nat} {t : qT} {D : qD} {Q : Int → qT → qD → Prop} {l6 l7 l11 l13 l14 l15 : Int} {l8 l9 l10 : Nat} {o16 : Option qV} (h :
wp S 114 47 [some (qs 0), some (qs 28), some (qs 29), some (qs 30), some (qs 31), some (qs 32), some (qi l6), some (qi l7), some (qr l8), some (qr l9), some (qr l10), some (ql l11), none, some (qi l13), some (qi (l14 + 1)), some (qi l15), o16] [] t D Q) : wp S 114 267 [some (qs 0), some (qs 28), some (qs 29), some (qs 30), some (qs 31), some (qs 32), some (qi l6), some (qi l7), some (qr l8), some (qr l9), some (qr l10), some (ql l11), none, some (qi l13), some (qi l14), some (qi l15), o16] [] t D Q := vc_ok (cuts := [47, 132, 139, 167, 172, 197, 226, 267, 273]) 600 267 _ _ _ _ h
set_option maxRecDepth 100000 in
theorem lb114_273 {S : (Nat → Int32) × Nat} {t : qT} {D : qD} {Q : Int → qT → qD → Prop} {l6 l7 l11 l13 l14 : Int} {l8 l9 l10 : Nat} {o15 o16 : Option qV} (h :
wp S 82 0 [some (qs 0), some (qi l6), some (qi l7), some (qi 0), none, none, none, none] [] t D (fun x1 t1 D1 =>
  (chk (qR x1)
    (chk (qR l13)
      (if x1 = l13 then
        (wp S 82 0 [some (qs 0), some (qi l6), some (qi l7), some (qi 1), none, none, none, none] [] t1 D1 (fun x2 t2 D2 =>
            (chk ((t2.1 l8).1 = 10)
              (chk ((0 : Int) ≤ 4 ∧ 4 < (t2.1 l8).2)
                (chk (qR x2)
                  (chk (qR (D2 l8 4))
                    (if x2 = (D2 l8 4) then
                      (wp S 82 0 [some (qs 0), some (qi l6), some (qi l7), some (qi 2), none, none, none, none] [] t2 D2 (fun x3 t3 D3 =>
                        (chk (qR x3)
                        (chk (x3 = l11 ∨ (qR64 x3 ∧ qR64 l11))
                        (chk (qR (qcmp x3 l11))
                        (if (qcmp x3 l11) = 0 then
                        (Q 1 t3 D3)
                        else
                        (Q 0 t3 D3)))))))
                      else
                      (Q 0 t2 D2))))))))
        else
        (Q 0 t1 D1)))))) : wp S 114 273 [some (qs 0), some (qs 28), some (qs 29), some (qs 30), some (qs 31), some (qs 32), some (qi l6), some (qi l7), some (qr l8), some (qr l9), some (qr l10), some (ql l11), none, some (qi l13), some (qi l14), o15, o16] [] t D Q := vc_ok (cuts := [47, 132, 139, 167, 172, 197, 226, 267, 273]) 600 273 _ _ _ _ h
