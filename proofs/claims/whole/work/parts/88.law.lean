/-! ## blocks of the law; two answers that are the same -/
section SE
variable {S : (Nat → Int32) × Nat} {m pc : Nat} {L : qL} {t : qT} {D : qD} {Q : Int → qT → qD → Prop} {z : Nat × (Nat × (Nat × Int))}
theorem s_eq {off x : Int} {p : Nat} {r : List qV} (hk : px_at m pc = some (.if_icmp .eq off, z)) (hp : pz_tg pc off = some p) (h : wp S m p L r t D Q) : wp S m pc L (qi x :: qi x :: r) t D Q := by
  refine wp_gs hk (fun s => ?_) h
  show pz_br (pz_cc .eq (Int32.ofInt x) (Int32.ofInt x)) pc off _ _ _ = _
  rw [pz_bq hp, show pz_cc .eq (Int32.ofInt x) (Int32.ofInt x) = true from decide_eq_true rfl]; rfl
end SE
set_option maxRecDepth 100000 in
theorem b188_18 {S : (Nat → Int32) × Nat} {t : qT} {D : qD} {Q : Int → qT → qD → Prop} {l3 : Int} (h :
chk (qR l3)
(chk (qR ((S.2 : Int) - 5))
  (if ((S.2 : Int) - 5) < l3 then
    (Q 1 t D)
    else
    (chk (0 ≤ l3 ∧ l3 < S.2 ∧ l3 < 2147483648)
      (chk (qR (qand (S.1 (l3).toNat).toInt 31))
        (if (qand (S.1 (l3).toNat).toInt 31) = 0 then
          (wp S 188 156 [some qx, some (qs 0), some (qs 28), some (qi l3)] [] t D Q)
          else
          (if (qand (S.1 (l3).toNat).toInt 31) = 1 then
            (wp S 188 179 [some qx, some (qs 0), some (qs 28), some (qi l3)] [] t D Q)
            else
            (if (qand (S.1 (l3).toNat).toInt 31) = 2 then
              (wp S 188 192 [some qx, some (qs 0), some (qs 28), some (qi l3)] [] t D Q)
              else
              (if (qand (S.1 (l3).toNat).toInt 31) = 3 then
                (wp S 188 205 [some qx, some (qs 0), some (qs 28), some (qi l3)] [] t D Q)
                else
                (if (qand (S.1 (l3).toNat).toInt 31) = 4 then
                  (wp S 188 218 [some qx, some (qs 0), some (qs 28), some (qi l3)] [] t D Q)
                  else
                  (if (qand (S.1 (l3).toNat).toInt 31) = 5 then
                    (wp S 188 261 [some qx, some (qs 0), some (qs 28), some (qi l3)] [] t D Q)
                    else
                    (if (qand (S.1 (l3).toNat).toInt 31) = 6 then
                      (wp S 188 304 [some qx, some (qs 0), some (qs 28), some (qi l3)] [] t D Q)
                      else
                      (if (qand (S.1 (l3).toNat).toInt 31) = 7 then
                        (wp S 188 347 [some qx, some (qs 0), some (qs 28), some (qi l3)] [] t D Q)
                        else
                        (if (qand (S.1 (l3).toNat).toInt 31) = 8 then
                        (wp S 188 380 [some qx, some (qs 0), some (qs 28), some (qi l3)] [] t D Q)
                        else
                        (if (qand (S.1 (l3).toNat).toInt 31) = 9 then
                        (wp S 188 403 [some qx, some (qs 0), some (qs 28), some (qi l3)] [] t D Q)
                        else
                        (if (qand (S.1 (l3).toNat).toInt 31) = 10 then
                        (wp S 188 426 [some qx, some (qs 0), some (qs 28), some (qi l3)] [] t D Q)
                        else
                        (if (qand (S.1 (l3).toNat).toInt 31) = 11 then
                        (wp S 188 449 [some qx, some (qs 0), some (qs 28), some (qi l3)] [] t D Q)
                        else
                        (if (qand (S.1 (l3).toNat).toInt 31) = 12 then
                        (wp S 188 482 [some qx, some (qs 0), some (qs 28), some (qi l3)] [] t D Q)
                        else
                        (if (qand (S.1 (l3).toNat).toInt 31) = 13 then
                        (wp S 188 495 [some qx, some (qs 0), some (qs 28), some (qi l3)] [] t D Q)
                        else
                        (if (qand (S.1 (l3).toNat).toInt 31) = 14 then
                        (wp S 188 518 [some qx, some (qs 0), some (qs 28), some (qi l3)] [] t D Q)
                        else
                        (if (qand (S.1 (l3).toNat).toInt 31) = 15 then
                        (wp S 188 561 [some qx, some (qs 0), some (qs 28), some (qi l3)] [] t D Q)
                        else
                        (if (qand (S.1 (l3).toNat).toInt 31) = 16 then
                        (wp S 188 574 [some qx, some (qs 0), some (qs 28), some (qi l3)] [] t D Q)
                        else
                        (if (qand (S.1 (l3).toNat).toInt 31) = 17 then
                        (wp S 188 607 [some qx, some (qs 0), some (qs 28), some (qi l3)] [] t D Q)
                        else
                        (if (qand (S.1 (l3).toNat).toInt 31) = 18 then
                        (wp S 188 620 [some qx, some (qs 0), some (qs 28), some (qi l3)] [] t D Q)
                        else
                        (if (qand (S.1 (l3).toNat).toInt 31) = 19 then
                        (wp S 188 643 [some qx, some (qs 0), some (qs 28), some (qi l3)] [] t D Q)
                        else
                        (if (qand (S.1 (l3).toNat).toInt 31) = 20 then
                        (wp S 188 676 [some qx, some (qs 0), some (qs 28), some (qi l3)] [] t D Q)
                        else
                        (if (qand (S.1 (l3).toNat).toInt 31) = 21 then
                        (wp S 188 729 [some qx, some (qs 0), some (qs 28), some (qi l3)] [] t D Q)
                        else
                        (if (qand (S.1 (l3).toNat).toInt 31) = 22 then
                        (wp S 188 742 [some qx, some (qs 0), some (qs 28), some (qi l3)] [] t D Q)
                        else
                        (if (qand (S.1 (l3).toNat).toInt 31) = 23 then
                        (wp S 188 785 [some qx, some (qs 0), some (qs 28), some (qi l3)] [] t D Q)
                        else
                        (if (qand (S.1 (l3).toNat).toInt 31) = 24 then
                        (wp S 188 798 [some qx, some (qs 0), some (qs 28), some (qi l3)] [] t D Q)
                        else
                        (if (qand (S.1 (l3).toNat).toInt 31) = 25 then
                        (wp S 188 811 [some qx, some (qs 0), some (qs 28), some (qi l3)] [] t D Q)
                        else
                        (if (qand (S.1 (l3).toNat).toInt 31) = 26 then
                        (wp S 188 834 [some qx, some (qs 0), some (qs 28), some (qi l3)] [] t D Q)
                        else
                        (wp S 188 848 [some qx, some (qs 0), some (qs 28), some (qi l3)] [] t D Q))))))))))))))))))))))))))))))))) : wp S 188 18 [some qx, some (qs 0), some (qs 28), some (qi l3)] [] t D Q := vc_ok (cuts := [18, 156, 174, 179, 187, 192, 200, 205, 213, 218, 256, 261, 299, 304, 342, 347, 375, 380, 398, 403, 421, 426, 444, 449, 477, 482, 490, 495, 513, 518, 556, 561, 569, 574, 602, 607, 615, 620, 638, 643, 671, 676, 724, 729, 737, 742, 780, 785, 793, 798, 806, 811, 829, 834, 848]) 600 18 _ _ _ _ h
set_option maxRecDepth 100000 in
theorem b188_156 {S : (Nat → Int32) × Nat} {t : qT} {D : qD} {Q : Int → qT → qD → Prop} {l3 : Int} (h :
chk (0 ≤ (l3 + 1) ∧ (l3 + 1) < S.2 ∧ (l3 + 1) < 2147483648)
(wp S 68 0 [some (qs 0), some (qi (S.1 ((l3 + 1)).toNat).toInt)] [] t D (fun x1 t1 D1 =>
    (chk (0 ≤ (l3 + 1) ∧ (l3 + 1) < S.2 ∧ (l3 + 1) < 2147483648)
      (wp S 111 0 [some (qs 28), some (qi (S.1 ((l3 + 1)).toNat).toInt)] [] t1 D1 (fun x2 t2 D2 =>
          (wp S 188 174 [some qx, some (qs 0), some (qs 28), some (qi l3)] [(qi x2), (qi x1)] t2 D2 Q))))))) : wp S 188 156 [some qx, some (qs 0), some (qs 28), some (qi l3)] [] t D Q := vc_ok (cuts := [18, 156, 174, 179, 187, 192, 200, 205, 213, 218, 256, 261, 299, 304, 342, 347, 375, 380, 398, 403, 421, 426, 444, 449, 477, 482, 490, 495, 513, 518, 556, 561, 569, 574, 602, 607, 615, 620, 638, 643, 671, 676, 724, 729, 737, 742, 780, 785, 793, 798, 806, 811, 829, 834, 848]) 600 156 _ _ _ _ h
set_option maxRecDepth 100000 in
theorem b188_179 {S : (Nat → Int32) × Nat} {t : qT} {D : qD} {Q : Int → qT → qD → Prop} {l3 : Int} (h :
wp S 69 0 [some (qs 0), none] [] t D (fun x1 t1 D1 =>
  (wp S 112 0 [some (qs 28), none] [] t1 D1 (fun x2 t2 D2 =>
      (wp S 188 187 [some qx, some (qs 0), some (qs 28), some (qi l3)] [(qi x2), (qi x1)] t2 D2 Q))))) : wp S 188 179 [some qx, some (qs 0), some (qs 28), some (qi l3)] [] t D Q := vc_ok (cuts := [18, 156, 174, 179, 187, 192, 200, 205, 213, 218, 256, 261, 299, 304, 342, 347, 375, 380, 398, 403, 421, 426, 444, 449, 477, 482, 490, 495, 513, 518, 556, 561, 569, 574, 602, 607, 615, 620, 638, 643, 671, 676, 724, 729, 737, 742, 780, 785, 793, 798, 806, 811, 829, 834, 848]) 600 179 _ _ _ _ h
set_option maxRecDepth 100000 in
theorem b188_192 {S : (Nat → Int32) × Nat} {t : qT} {D : qD} {Q : Int → qT → qD → Prop} {l3 : Int} (h :
wp S 70 0 [some (qs 0)] [] t D (fun x1 t1 D1 =>
  (wp S 123 0 [some (qs 28)] [] t1 D1 (fun x2 t2 D2 =>
      (wp S 188 200 [some qx, some (qs 0), some (qs 28), some (qi l3)] [(qi x2), (qi x1)] t2 D2 Q))))) : wp S 188 192 [some qx, some (qs 0), some (qs 28), some (qi l3)] [] t D Q := vc_ok (cuts := [18, 156, 174, 179, 187, 192, 200, 205, 213, 218, 256, 261, 299, 304, 342, 347, 375, 380, 398, 403, 421, 426, 444, 449, 477, 482, 490, 495, 513, 518, 556, 561, 569, 574, 602, 607, 615, 620, 638, 643, 671, 676, 724, 729, 737, 742, 780, 785, 793, 798, 806, 811, 829, 834, 848]) 600 192 _ _ _ _ h
set_option maxRecDepth 100000 in
theorem b188_205 {S : (Nat → Int32) × Nat} {t : qT} {D : qD} {Q : Int → qT → qD → Prop} {l3 : Int} (h :
wp S 71 0 [some (qs 0), none, none] [] t D (fun x1 t1 D1 =>
  (wp S 127 0 [some (qs 28), none, none] [] t1 D1 (fun x2 t2 D2 =>
      (wp S 188 213 [some qx, some (qs 0), some (qs 28), some (qi l3)] [(qi x2), (qi x1)] t2 D2 Q))))) : wp S 188 205 [some qx, some (qs 0), some (qs 28), some (qi l3)] [] t D Q := vc_ok (cuts := [18, 156, 174, 179, 187, 192, 200, 205, 213, 218, 256, 261, 299, 304, 342, 347, 375, 380, 398, 403, 421, 426, 444, 449, 477, 482, 490, 495, 513, 518, 556, 561, 569, 574, 602, 607, 615, 620, 638, 643, 671, 676, 724, 729, 737, 742, 780, 785, 793, 798, 806, 811, 829, 834, 848]) 600 205 _ _ _ _ h
set_option maxRecDepth 100000 in
theorem b188_218 {S : (Nat → Int32) × Nat} {t : qT} {D : qD} {Q : Int → qT → qD → Prop} {l3 : Int} (h :
chk (0 ≤ (l3 + 1) ∧ (l3 + 1) < S.2 ∧ (l3 + 1) < 2147483648)
(chk (0 ≤ (l3 + 2) ∧ (l3 + 2) < S.2 ∧ (l3 + 2) < 2147483648)
  (chk (0 ≤ (l3 + 3) ∧ (l3 + 3) < S.2 ∧ (l3 + 3) < 2147483648)
    (wp S 72 0 [some (qs 0), some (qi (S.1 ((l3 + 1)).toNat).toInt), some (qi (S.1 ((l3 + 2)).toNat).toInt), some (qi (S.1 ((l3 + 3)).toNat).toInt)] [] t D (fun x1 t1 D1 =>
        (chk (0 ≤ (l3 + 1) ∧ (l3 + 1) < S.2 ∧ (l3 + 1) < 2147483648)
          (chk (0 ≤ (l3 + 2) ∧ (l3 + 2) < S.2 ∧ (l3 + 2) < 2147483648)
            (chk (0 ≤ (l3 + 3) ∧ (l3 + 3) < S.2 ∧ (l3 + 3) < 2147483648)
              (wp S 157 0 [some (qs 28), some (qi (S.1 ((l3 + 1)).toNat).toInt), some (qi (S.1 ((l3 + 2)).toNat).toInt), some (qi (S.1 ((l3 + 3)).toNat).toInt)] [] t1 D1 (fun x2 t2 D2 =>
                  (wp S 188 256 [some qx, some (qs 0), some (qs 28), some (qi l3)] [(qi x2), (qi x1)] t2 D2 Q))))))))))) : wp S 188 218 [some qx, some (qs 0), some (qs 28), some (qi l3)] [] t D Q := vc_ok (cuts := [18, 156, 174, 179, 187, 192, 200, 205, 213, 218, 256, 261, 299, 304, 342, 347, 375, 380, 398, 403, 421, 426, 444, 449, 477, 482, 490, 495, 513, 518, 556, 561, 569, 574, 602, 607, 615, 620, 638, 643, 671, 676, 724, 729, 737, 742, 780, 785, 793, 798, 806, 811, 829, 834, 848]) 600 218 _ _ _ _ h
set_option maxRecDepth 100000 in
theorem b188_261 {S : (Nat → Int32) × Nat} {t : qT} {D : qD} {Q : Int → qT → qD → Prop} {l3 : Int} (h :
chk (0 ≤ (l3 + 1) ∧ (l3 + 1) < S.2 ∧ (l3 + 1) < 2147483648)
(chk (0 ≤ (l3 + 2) ∧ (l3 + 2) < S.2 ∧ (l3 + 2) < 2147483648)
  (chk (0 ≤ (l3 + 3) ∧ (l3 + 3) < S.2 ∧ (l3 + 3) < 2147483648)
    (wp S 73 0 [some (qs 0), some (qi (S.1 ((l3 + 1)).toNat).toInt), some (qi (S.1 ((l3 + 2)).toNat).toInt), some (qi (S.1 ((l3 + 3)).toNat).toInt), none, none] [] t D (fun x1 t1 D1 =>
        (chk (0 ≤ (l3 + 1) ∧ (l3 + 1) < S.2 ∧ (l3 + 1) < 2147483648)
          (chk (0 ≤ (l3 + 2) ∧ (l3 + 2) < S.2 ∧ (l3 + 2) < 2147483648)
            (chk (0 ≤ (l3 + 3) ∧ (l3 + 3) < S.2 ∧ (l3 + 3) < 2147483648)
              (wp S 159 0 [some (qs 28), some (qi (S.1 ((l3 + 1)).toNat).toInt), some (qi (S.1 ((l3 + 2)).toNat).toInt), some (qi (S.1 ((l3 + 3)).toNat).toInt)] [] t1 D1 (fun x2 t2 D2 =>
                  (wp S 188 299 [some qx, some (qs 0), some (qs 28), some (qi l3)] [(qi x2), (qi x1)] t2 D2 Q))))))))))) : wp S 188 261 [some qx, some (qs 0), some (qs 28), some (qi l3)] [] t D Q := vc_ok (cuts := [18, 156, 174, 179, 187, 192, 200, 205, 213, 218, 256, 261, 299, 304, 342, 347, 375, 380, 398, 403, 421, 426, 444, 449, 477, 482, 490, 495, 513, 518, 556, 561, 569, 574, 602, 607, 615, 620, 638, 643, 671, 676, 724, 729, 737, 742, 780, 785, 793, 798, 806, 811, 829, 834, 848]) 600 261 _ _ _ _ h
set_option maxRecDepth 100000 in
theorem b188_304 {S : (Nat → Int32) × Nat} {t : qT} {D : qD} {Q : Int → qT → qD → Prop} {l3 : Int} (h :
chk (0 ≤ (l3 + 1) ∧ (l3 + 1) < S.2 ∧ (l3 + 1) < 2147483648)
(chk (0 ≤ (l3 + 2) ∧ (l3 + 2) < S.2 ∧ (l3 + 2) < 2147483648)
  (chk (0 ≤ (l3 + 3) ∧ (l3 + 3) < S.2 ∧ (l3 + 3) < 2147483648)
    (wp S 74 0 [some (qs 0), some (qi (S.1 ((l3 + 1)).toNat).toInt), some (qi (S.1 ((l3 + 2)).toNat).toInt), some (qi (S.1 ((l3 + 3)).toNat).toInt)] [] t D (fun x1 t1 D1 =>
        (chk (0 ≤ (l3 + 1) ∧ (l3 + 1) < S.2 ∧ (l3 + 1) < 2147483648)
          (chk (0 ≤ (l3 + 2) ∧ (l3 + 2) < S.2 ∧ (l3 + 2) < 2147483648)
            (chk (0 ≤ (l3 + 3) ∧ (l3 + 3) < S.2 ∧ (l3 + 3) < 2147483648)
              (wp S 160 0 [some (qs 28), some (qi (S.1 ((l3 + 1)).toNat).toInt), some (qi (S.1 ((l3 + 2)).toNat).toInt), some (qi (S.1 ((l3 + 3)).toNat).toInt), none] [] t1 D1 (fun x2 t2 D2 =>
                  (wp S 188 342 [some qx, some (qs 0), some (qs 28), some (qi l3)] [(qi x2), (qi x1)] t2 D2 Q))))))))))) : wp S 188 304 [some qx, some (qs 0), some (qs 28), some (qi l3)] [] t D Q := vc_ok (cuts := [18, 156, 174, 179, 187, 192, 200, 205, 213, 218, 256, 261, 299, 304, 342, 347, 375, 380, 398, 403, 421, 426, 444, 449, 477, 482, 490, 495, 513, 518, 556, 561, 569, 574, 602, 607, 615, 620, 638, 643, 671, 676, 724, 729, 737, 742, 780, 785, 793, 798, 806, 811, 829, 834, 848]) 600 304 _ _ _ _ h
set_option maxRecDepth 100000 in
theorem b188_347 {S : (Nat → Int32) × Nat} {t : qT} {D : qD} {Q : Int → qT → qD → Prop} {l3 : Int} (h :
chk (0 ≤ (l3 + 1) ∧ (l3 + 1) < S.2 ∧ (l3 + 1) < 2147483648)
(chk (0 ≤ (l3 + 2) ∧ (l3 + 2) < S.2 ∧ (l3 + 2) < 2147483648)
  (wp S 75 0 [some (qs 0), some (qi (S.1 ((l3 + 1)).toNat).toInt), some (qi (S.1 ((l3 + 2)).toNat).toInt), none] [] t D (fun x1 t1 D1 =>
      (chk (0 ≤ (l3 + 1) ∧ (l3 + 1) < S.2 ∧ (l3 + 1) < 2147483648)
        (chk (0 ≤ (l3 + 2) ∧ (l3 + 2) < S.2 ∧ (l3 + 2) < 2147483648)
          (wp S 163 0 [some (qs 28), some (qi (S.1 ((l3 + 1)).toNat).toInt), some (qi (S.1 ((l3 + 2)).toNat).toInt)] [] t1 D1 (fun x2 t2 D2 =>
              (wp S 188 375 [some qx, some (qs 0), some (qs 28), some (qi l3)] [(qi x2), (qi x1)] t2 D2 Q))))))))) : wp S 188 347 [some qx, some (qs 0), some (qs 28), some (qi l3)] [] t D Q := vc_ok (cuts := [18, 156, 174, 179, 187, 192, 200, 205, 213, 218, 256, 261, 299, 304, 342, 347, 375, 380, 398, 403, 421, 426, 444, 449, 477, 482, 490, 495, 513, 518, 556, 561, 569, 574, 602, 607, 615, 620, 638, 643, 671, 676, 724, 729, 737, 742, 780, 785, 793, 798, 806, 811, 829, 834, 848]) 600 347 _ _ _ _ h
set_option maxRecDepth 100000 in
theorem b188_380 {S : (Nat → Int32) × Nat} {t : qT} {D : qD} {Q : Int → qT → qD → Prop} {l3 : Int} (h :
chk (0 ≤ (l3 + 1) ∧ (l3 + 1) < S.2 ∧ (l3 + 1) < 2147483648)
(wp S 76 0 [some (qs 0), some (qi (S.1 ((l3 + 1)).toNat).toInt)] [] t D (fun x1 t1 D1 =>
    (chk (0 ≤ (l3 + 1) ∧ (l3 + 1) < S.2 ∧ (l3 + 1) < 2147483648)
      (wp S 164 0 [some (qs 28), some (qi (S.1 ((l3 + 1)).toNat).toInt)] [] t1 D1 (fun x2 t2 D2 =>
          (wp S 188 398 [some qx, some (qs 0), some (qs 28), some (qi l3)] [(qi x2), (qi x1)] t2 D2 Q))))))) : wp S 188 380 [some qx, some (qs 0), some (qs 28), some (qi l3)] [] t D Q := vc_ok (cuts := [18, 156, 174, 179, 187, 192, 200, 205, 213, 218, 256, 261, 299, 304, 342, 347, 375, 380, 398, 403, 421, 426, 444, 449, 477, 482, 490, 495, 513, 518, 556, 561, 569, 574, 602, 607, 615, 620, 638, 643, 671, 676, 724, 729, 737, 742, 780, 785, 793, 798, 806, 811, 829, 834, 848]) 600 380 _ _ _ _ h
set_option maxRecDepth 100000 in
theorem b188_403 {S : (Nat → Int32) × Nat} {t : qT} {D : qD} {Q : Int → qT → qD → Prop} {l3 : Int} (h :
chk (0 ≤ (l3 + 1) ∧ (l3 + 1) < S.2 ∧ (l3 + 1) < 2147483648)
(wp S 77 0 [some (qs 0), some (qi (S.1 ((l3 + 1)).toNat).toInt)] [] t D (fun x1 t1 D1 =>
    (chk (0 ≤ (l3 + 1) ∧ (l3 + 1) < S.2 ∧ (l3 + 1) < 2147483648)
      (wp S 139 0 [some (qs 28), some (qi (S.1 ((l3 + 1)).toNat).toInt)] [] t1 D1 (fun x2 t2 D2 =>
          (wp S 188 421 [some qx, some (qs 0), some (qs 28), some (qi l3)] [(qi x2), (qi x1)] t2 D2 Q))))))) : wp S 188 403 [some qx, some (qs 0), some (qs 28), some (qi l3)] [] t D Q := vc_ok (cuts := [18, 156, 174, 179, 187, 192, 200, 205, 213, 218, 256, 261, 299, 304, 342, 347, 375, 380, 398, 403, 421, 426, 444, 449, 477, 482, 490, 495, 513, 518, 556, 561, 569, 574, 602, 607, 615, 620, 638, 643, 671, 676, 724, 729, 737, 742, 780, 785, 793, 798, 806, 811, 829, 834, 848]) 600 403 _ _ _ _ h
set_option maxRecDepth 100000 in
theorem b188_426 {S : (Nat → Int32) × Nat} {t : qT} {D : qD} {Q : Int → qT → qD → Prop} {l3 : Int} (h :
chk (0 ≤ (l3 + 1) ∧ (l3 + 1) < S.2 ∧ (l3 + 1) < 2147483648)
(wp S 78 0 [some (qs 0), some (qi (S.1 ((l3 + 1)).toNat).toInt), none] [] t D (fun x1 t1 D1 =>
    (chk (0 ≤ (l3 + 1) ∧ (l3 + 1) < S.2 ∧ (l3 + 1) < 2147483648)
      (wp S 140 0 [some (qs 28), some (qi (S.1 ((l3 + 1)).toNat).toInt)] [] t1 D1 (fun x2 t2 D2 =>
          (wp S 188 444 [some qx, some (qs 0), some (qs 28), some (qi l3)] [(qi x2), (qi x1)] t2 D2 Q))))))) : wp S 188 426 [some qx, some (qs 0), some (qs 28), some (qi l3)] [] t D Q := vc_ok (cuts := [18, 156, 174, 179, 187, 192, 200, 205, 213, 218, 256, 261, 299, 304, 342, 347, 375, 380, 398, 403, 421, 426, 444, 449, 477, 482, 490, 495, 513, 518, 556, 561, 569, 574, 602, 607, 615, 620, 638, 643, 671, 676, 724, 729, 737, 742, 780, 785, 793, 798, 806, 811, 829, 834, 848]) 600 426 _ _ _ _ h
set_option maxRecDepth 100000 in
theorem b188_449 {S : (Nat → Int32) × Nat} {t : qT} {D : qD} {Q : Int → qT → qD → Prop} {l3 : Int} (h :
chk (0 ≤ (l3 + 1) ∧ (l3 + 1) < S.2 ∧ (l3 + 1) < 2147483648)
(chk (0 ≤ (l3 + 2) ∧ (l3 + 2) < S.2 ∧ (l3 + 2) < 2147483648)
  (wp S 79 0 [some (qs 0), some (qi (S.1 ((l3 + 1)).toNat).toInt), some (qi (S.1 ((l3 + 2)).toNat).toInt), none] [] t D (fun x1 t1 D1 =>
      (chk (0 ≤ (l3 + 1) ∧ (l3 + 1) < S.2 ∧ (l3 + 1) < 2147483648)
        (chk (0 ≤ (l3 + 2) ∧ (l3 + 2) < S.2 ∧ (l3 + 2) < 2147483648)
          (wp S 141 0 [some (qs 28), some (qi (S.1 ((l3 + 1)).toNat).toInt), some (qi (S.1 ((l3 + 2)).toNat).toInt), none] [] t1 D1 (fun x2 t2 D2 =>
              (wp S 188 477 [some qx, some (qs 0), some (qs 28), some (qi l3)] [(qi x2), (qi x1)] t2 D2 Q))))))))) : wp S 188 449 [some qx, some (qs 0), some (qs 28), some (qi l3)] [] t D Q := vc_ok (cuts := [18, 156, 174, 179, 187, 192, 200, 205, 213, 218, 256, 261, 299, 304, 342, 347, 375, 380, 398, 403, 421, 426, 444, 449, 477, 482, 490, 495, 513, 518, 556, 561, 569, 574, 602, 607, 615, 620, 638, 643, 671, 676, 724, 729, 737, 742, 780, 785, 793, 798, 806, 811, 829, 834, 848]) 600 449 _ _ _ _ h
set_option maxRecDepth 100000 in
theorem b188_482 {S : (Nat → Int32) × Nat} {t : qT} {D : qD} {Q : Int → qT → qD → Prop} {l3 : Int} (h :
wp S 80 0 [some (qs 0)] [] t D (fun x1 t1 D1 =>
  (wp S 142 0 [some (qs 28)] [] t1 D1 (fun x2 t2 D2 =>
      (wp S 188 490 [some qx, some (qs 0), some (qs 28), some (qi l3)] [(qi x2), (qi x1)] t2 D2 Q))))) : wp S 188 482 [some qx, some (qs 0), some (qs 28), some (qi l3)] [] t D Q := vc_ok (cuts := [18, 156, 174, 179, 187, 192, 200, 205, 213, 218, 256, 261, 299, 304, 342, 347, 375, 380, 398, 403, 421, 426, 444, 449, 477, 482, 490, 495, 513, 518, 556, 561, 569, 574, 602, 607, 615, 620, 638, 643, 671, 676, 724, 729, 737, 742, 780, 785, 793, 798, 806, 811, 829, 834, 848]) 600 482 _ _ _ _ h
set_option maxRecDepth 100000 in
theorem b188_495 {S : (Nat → Int32) × Nat} {t : qT} {D : qD} {Q : Int → qT → qD → Prop} {l3 : Int} (h :
chk (0 ≤ (l3 + 1) ∧ (l3 + 1) < S.2 ∧ (l3 + 1) < 2147483648)
(wp S 81 0 [some (qs 0), some (qi (S.1 ((l3 + 1)).toNat).toInt), none] [] t D (fun x1 t1 D1 =>
    (chk (0 ≤ (l3 + 1) ∧ (l3 + 1) < S.2 ∧ (l3 + 1) < 2147483648)
      (wp S 151 0 [some (qs 28), some (qi (S.1 ((l3 + 1)).toNat).toInt)] [] t1 D1 (fun x2 t2 D2 =>
          (wp S 188 513 [some qx, some (qs 0), some (qs 28), some (qi l3)] [(qi x2), (qi x1)] t2 D2 Q))))))) : wp S 188 495 [some qx, some (qs 0), some (qs 28), some (qi l3)] [] t D Q := vc_ok (cuts := [18, 156, 174, 179, 187, 192, 200, 205, 213, 218, 256, 261, 299, 304, 342, 347, 375, 380, 398, 403, 421, 426, 444, 449, 477, 482, 490, 495, 513, 518, 556, 561, 569, 574, 602, 607, 615, 620, 638, 643, 671, 676, 724, 729, 737, 742, 780, 785, 793, 798, 806, 811, 829, 834, 848]) 600 495 _ _ _ _ h
set_option maxRecDepth 100000 in
theorem b188_518 {S : (Nat → Int32) × Nat} {t : qT} {D : qD} {Q : Int → qT → qD → Prop} {l3 : Int} (h :
chk (0 ≤ (l3 + 1) ∧ (l3 + 1) < S.2 ∧ (l3 + 1) < 2147483648)
(chk (0 ≤ (l3 + 2) ∧ (l3 + 2) < S.2 ∧ (l3 + 2) < 2147483648)
  (chk (0 ≤ (l3 + 3) ∧ (l3 + 3) < S.2 ∧ (l3 + 3) < 2147483648)
    (wp S 82 0 [some (qs 0), some (qi (S.1 ((l3 + 1)).toNat).toInt), some (qi (S.1 ((l3 + 2)).toNat).toInt), some (qi (S.1 ((l3 + 3)).toNat).toInt), none] [] t D (fun x1 t1 D1 =>
        (chk (0 ≤ (l3 + 1) ∧ (l3 + 1) < S.2 ∧ (l3 + 1) < 2147483648)
          (chk (0 ≤ (l3 + 2) ∧ (l3 + 2) < S.2 ∧ (l3 + 2) < 2147483648)
            (chk (0 ≤ (l3 + 3) ∧ (l3 + 3) < S.2 ∧ (l3 + 3) < 2147483648)
              (wp S 155 0 [some (qs 28), some (qi (S.1 ((l3 + 1)).toNat).toInt), some (qi (S.1 ((l3 + 2)).toNat).toInt), some (qi (S.1 ((l3 + 3)).toNat).toInt), none] [] t1 D1 (fun x2 t2 D2 =>
                  (wp S 188 556 [some qx, some (qs 0), some (qs 28), some (qi l3)] [(qi x2), (qi x1)] t2 D2 Q))))))))))) : wp S 188 518 [some qx, some (qs 0), some (qs 28), some (qi l3)] [] t D Q := vc_ok (cuts := [18, 156, 174, 179, 187, 192, 200, 205, 213, 218, 256, 261, 299, 304, 342, 347, 375, 380, 398, 403, 421, 426, 444, 449, 477, 482, 490, 495, 513, 518, 556, 561, 569, 574, 602, 607, 615, 620, 638, 643, 671, 676, 724, 729, 737, 742, 780, 785, 793, 798, 806, 811, 829, 834, 848]) 600 518 _ _ _ _ h
set_option maxRecDepth 100000 in
theorem b188_561 {S : (Nat → Int32) × Nat} {t : qT} {D : qD} {Q : Int → qT → qD → Prop} {l3 : Int} (h :
wp S 83 0 [some (qs 0)] [] t D (fun x1 t1 D1 =>
  (wp S 132 0 [some (qs 28), none] [] t1 D1 (fun x2 t2 D2 =>
      (wp S 188 569 [some qx, some (qs 0), some (qs 28), some (qi l3)] [(qi x2), (qi x1)] t2 D2 Q))))) : wp S 188 561 [some qx, some (qs 0), some (qs 28), some (qi l3)] [] t D Q := vc_ok (cuts := [18, 156, 174, 179, 187, 192, 200, 205, 213, 218, 256, 261, 299, 304, 342, 347, 375, 380, 398, 403, 421, 426, 444, 449, 477, 482, 490, 495, 513, 518, 556, 561, 569, 574, 602, 607, 615, 620, 638, 643, 671, 676, 724, 729, 737, 742, 780, 785, 793, 798, 806, 811, 829, 834, 848]) 600 561 _ _ _ _ h
set_option maxRecDepth 100000 in
theorem b188_574 {S : (Nat → Int32) × Nat} {t : qT} {D : qD} {Q : Int → qT → qD → Prop} {l3 : Int} (h :
chk (0 ≤ (l3 + 1) ∧ (l3 + 1) < S.2 ∧ (l3 + 1) < 2147483648)
(chk (0 ≤ (l3 + 2) ∧ (l3 + 2) < S.2 ∧ (l3 + 2) < 2147483648)
  (wp S 84 0 [some (qs 0), some (qi (S.1 ((l3 + 1)).toNat).toInt), some (qi (S.1 ((l3 + 2)).toNat).toInt), none] [] t D (fun x1 t1 D1 =>
      (chk (0 ≤ (l3 + 1) ∧ (l3 + 1) < S.2 ∧ (l3 + 1) < 2147483648)
        (chk (0 ≤ (l3 + 2) ∧ (l3 + 2) < S.2 ∧ (l3 + 2) < 2147483648)
          (wp S 148 0 [some (qs 28), some (qi (S.1 ((l3 + 1)).toNat).toInt), some (qi (S.1 ((l3 + 2)).toNat).toInt)] [] t1 D1 (fun x2 t2 D2 =>
              (wp S 188 602 [some qx, some (qs 0), some (qs 28), some (qi l3)] [(qi x2), (qi x1)] t2 D2 Q))))))))) : wp S 188 574 [some qx, some (qs 0), some (qs 28), some (qi l3)] [] t D Q := vc_ok (cuts := [18, 156, 174, 179, 187, 192, 200, 205, 213, 218, 256, 261, 299, 304, 342, 347, 375, 380, 398, 403, 421, 426, 444, 449, 477, 482, 490, 495, 513, 518, 556, 561, 569, 574, 602, 607, 615, 620, 638, 643, 671, 676, 724, 729, 737, 742, 780, 785, 793, 798, 806, 811, 829, 834, 848]) 600 574 _ _ _ _ h
set_option maxRecDepth 100000 in
theorem b188_607 {S : (Nat → Int32) × Nat} {t : qT} {D : qD} {Q : Int → qT → qD → Prop} {l3 : Int} (h :
wp S 85 0 [some (qs 0), none, none] [] t D (fun x1 t1 D1 =>
  (wp S 153 0 [some (qs 28)] [] t1 D1 (fun x2 t2 D2 =>
      (wp S 188 615 [some qx, some (qs 0), some (qs 28), some (qi l3)] [(qi x2), (qi x1)] t2 D2 Q))))) : wp S 188 607 [some qx, some (qs 0), some (qs 28), some (qi l3)] [] t D Q := vc_ok (cuts := [18, 156, 174, 179, 187, 192, 200, 205, 213, 218, 256, 261, 299, 304, 342, 347, 375, 380, 398, 403, 421, 426, 444, 449, 477, 482, 490, 495, 513, 518, 556, 561, 569, 574, 602, 607, 615, 620, 638, 643, 671, 676, 724, 729, 737, 742, 780, 785, 793, 798, 806, 811, 829, 834, 848]) 600 607 _ _ _ _ h
set_option maxRecDepth 100000 in
theorem b188_620 {S : (Nat → Int32) × Nat} {t : qT} {D : qD} {Q : Int → qT → qD → Prop} {l3 : Int} (h :
chk (0 ≤ (l3 + 1) ∧ (l3 + 1) < S.2 ∧ (l3 + 1) < 2147483648)
(wp S 86 0 [some (qs 0), some (qi (S.1 ((l3 + 1)).toNat).toInt)] [] t D (fun x1 t1 D1 =>
    (chk (0 ≤ (l3 + 1) ∧ (l3 + 1) < S.2 ∧ (l3 + 1) < 2147483648)
      (wp S 154 0 [some (qs 28), some (qi (S.1 ((l3 + 1)).toNat).toInt)] [] t1 D1 (fun x2 t2 D2 =>
          (wp S 188 638 [some qx, some (qs 0), some (qs 28), some (qi l3)] [(qi x2), (qi x1)] t2 D2 Q))))))) : wp S 188 620 [some qx, some (qs 0), some (qs 28), some (qi l3)] [] t D Q := vc_ok (cuts := [18, 156, 174, 179, 187, 192, 200, 205, 213, 218, 256, 261, 299, 304, 342, 347, 375, 380, 398, 403, 421, 426, 444, 449, 477, 482, 490, 495, 513, 518, 556, 561, 569, 574, 602, 607, 615, 620, 638, 643, 671, 676, 724, 729, 737, 742, 780, 785, 793, 798, 806, 811, 829, 834, 848]) 600 620 _ _ _ _ h
set_option maxRecDepth 100000 in
theorem b188_643 {S : (Nat → Int32) × Nat} {t : qT} {D : qD} {Q : Int → qT → qD → Prop} {l3 : Int} (h :
chk (0 ≤ (l3 + 1) ∧ (l3 + 1) < S.2 ∧ (l3 + 1) < 2147483648)
(chk (0 ≤ (l3 + 2) ∧ (l3 + 2) < S.2 ∧ (l3 + 2) < 2147483648)
  (wp S 87 0 [some (qs 0), some (qi (S.1 ((l3 + 1)).toNat).toInt), some (qi (S.1 ((l3 + 2)).toNat).toInt), none, none] [] t D (fun x1 t1 D1 =>
      (chk (0 ≤ (l3 + 1) ∧ (l3 + 1) < S.2 ∧ (l3 + 1) < 2147483648)
        (chk (0 ≤ (l3 + 2) ∧ (l3 + 2) < S.2 ∧ (l3 + 2) < 2147483648)
          (wp S 165 0 [some (qs 28), some (qi (S.1 ((l3 + 1)).toNat).toInt), some (qi (S.1 ((l3 + 2)).toNat).toInt), none, none] [] t1 D1 (fun x2 t2 D2 =>
              (wp S 188 671 [some qx, some (qs 0), some (qs 28), some (qi l3)] [(qi x2), (qi x1)] t2 D2 Q))))))))) : wp S 188 643 [some qx, some (qs 0), some (qs 28), some (qi l3)] [] t D Q := vc_ok (cuts := [18, 156, 174, 179, 187, 192, 200, 205, 213, 218, 256, 261, 299, 304, 342, 347, 375, 380, 398, 403, 421, 426, 444, 449, 477, 482, 490, 495, 513, 518, 556, 561, 569, 574, 602, 607, 615, 620, 638, 643, 671, 676, 724, 729, 737, 742, 780, 785, 793, 798, 806, 811, 829, 834, 848]) 600 643 _ _ _ _ h
set_option maxRecDepth 100000 in
theorem b188_676 {S : (Nat → Int32) × Nat} {t : qT} {D : qD} {Q : Int → qT → qD → Prop} {l3 : Int} (h :
chk (0 ≤ (l3 + 1) ∧ (l3 + 1) < S.2 ∧ (l3 + 1) < 2147483648)
(chk (0 ≤ (l3 + 2) ∧ (l3 + 2) < S.2 ∧ (l3 + 2) < 2147483648)
  (chk (0 ≤ (l3 + 3) ∧ (l3 + 3) < S.2 ∧ (l3 + 3) < 2147483648)
    (chk (0 ≤ (l3 + 4) ∧ (l3 + 4) < S.2 ∧ (l3 + 4) < 2147483648)
      (wp S 88 0 [some (qs 0), some (qi (S.1 ((l3 + 1)).toNat).toInt), some (qi (S.1 ((l3 + 2)).toNat).toInt), some (qi (S.1 ((l3 + 3)).toNat).toInt), some (qi (S.1 ((l3 + 4)).toNat).toInt)] [] t D (fun x1 t1 D1 =>
          (chk (0 ≤ (l3 + 1) ∧ (l3 + 1) < S.2 ∧ (l3 + 1) < 2147483648)
            (chk (0 ≤ (l3 + 2) ∧ (l3 + 2) < S.2 ∧ (l3 + 2) < 2147483648)
              (chk (0 ≤ (l3 + 3) ∧ (l3 + 3) < S.2 ∧ (l3 + 3) < 2147483648)
                (chk (0 ≤ (l3 + 4) ∧ (l3 + 4) < S.2 ∧ (l3 + 4) < 2147483648)
                  (wp S 166 0 [some (qs 28), some (qi (S.1 ((l3 + 1)).toNat).toInt), some (qi (S.1 ((l3 + 2)).toNat).toInt), some (qi (S.1 ((l3 + 3)).toNat).toInt), some (qi (S.1 ((l3 + 4)).toNat).toInt)] [] t1 D1 (fun x2 t2 D2 =>
                      (wp S 188 724 [some qx, some (qs 0), some (qs 28), some (qi l3)] [(qi x2), (qi x1)] t2 D2 Q))))))))))))) : wp S 188 676 [some qx, some (qs 0), some (qs 28), some (qi l3)] [] t D Q := vc_ok (cuts := [18, 156, 174, 179, 187, 192, 200, 205, 213, 218, 256, 261, 299, 304, 342, 347, 375, 380, 398, 403, 421, 426, 444, 449, 477, 482, 490, 495, 513, 518, 556, 561, 569, 574, 602, 607, 615, 620, 638, 643, 671, 676, 724, 729, 737, 742, 780, 785, 793, 798, 806, 811, 829, 834, 848]) 600 676 _ _ _ _ h
set_option maxRecDepth 100000 in
theorem b188_729 {S : (Nat → Int32) × Nat} {t : qT} {D : qD} {Q : Int → qT → qD → Prop} {l3 : Int} (h :
wp S 89 0 [some (qs 0), none] [] t D (fun x1 t1 D1 =>
  (wp S 167 0 [some (qs 28), none] [] t1 D1 (fun x2 t2 D2 =>
      (wp S 188 737 [some qx, some (qs 0), some (qs 28), some (qi l3)] [(qi x2), (qi x1)] t2 D2 Q))))) : wp S 188 729 [some qx, some (qs 0), some (qs 28), some (qi l3)] [] t D Q := vc_ok (cuts := [18, 156, 174, 179, 187, 192, 200, 205, 213, 218, 256, 261, 299, 304, 342, 347, 375, 380, 398, 403, 421, 426, 444, 449, 477, 482, 490, 495, 513, 518, 556, 561, 569, 574, 602, 607, 615, 620, 638, 643, 671, 676, 724, 729, 737, 742, 780, 785, 793, 798, 806, 811, 829, 834, 848]) 600 729 _ _ _ _ h
set_option maxRecDepth 100000 in
theorem b188_742 {S : (Nat → Int32) × Nat} {t : qT} {D : qD} {Q : Int → qT → qD → Prop} {l3 : Int} (h :
chk (0 ≤ (l3 + 1) ∧ (l3 + 1) < S.2 ∧ (l3 + 1) < 2147483648)
(chk (0 ≤ (l3 + 2) ∧ (l3 + 2) < S.2 ∧ (l3 + 2) < 2147483648)
  (chk (0 ≤ (l3 + 3) ∧ (l3 + 3) < S.2 ∧ (l3 + 3) < 2147483648)
    (wp S 90 0 [some (qs 0), some (qi (S.1 ((l3 + 1)).toNat).toInt), some (qi (S.1 ((l3 + 2)).toNat).toInt), some (qi (S.1 ((l3 + 3)).toNat).toInt), none, none, none, none] [] t D (fun x1 t1 D1 =>
        (chk (0 ≤ (l3 + 1) ∧ (l3 + 1) < S.2 ∧ (l3 + 1) < 2147483648)
          (chk (0 ≤ (l3 + 2) ∧ (l3 + 2) < S.2 ∧ (l3 + 2) < 2147483648)
            (chk (0 ≤ (l3 + 3) ∧ (l3 + 3) < S.2 ∧ (l3 + 3) < 2147483648)
              (wp S 176 0 [some (qs 28), some (qi (S.1 ((l3 + 1)).toNat).toInt), some (qi (S.1 ((l3 + 2)).toNat).toInt), some (qi (S.1 ((l3 + 3)).toNat).toInt), none, none] [] t1 D1 (fun x2 t2 D2 =>
                  (wp S 188 780 [some qx, some (qs 0), some (qs 28), some (qi l3)] [(qi x2), (qi x1)] t2 D2 Q))))))))))) : wp S 188 742 [some qx, some (qs 0), some (qs 28), some (qi l3)] [] t D Q := vc_ok (cuts := [18, 156, 174, 179, 187, 192, 200, 205, 213, 218, 256, 261, 299, 304, 342, 347, 375, 380, 398, 403, 421, 426, 444, 449, 477, 482, 490, 495, 513, 518, 556, 561, 569, 574, 602, 607, 615, 620, 638, 643, 671, 676, 724, 729, 737, 742, 780, 785, 793, 798, 806, 811, 829, 834, 848]) 600 742 _ _ _ _ h
set_option maxRecDepth 100000 in
theorem b188_785 {S : (Nat → Int32) × Nat} {t : qT} {D : qD} {Q : Int → qT → qD → Prop} {l3 : Int} (h :
wp S 91 0 [some (qs 0)] [] t D (fun x1 t1 D1 =>
  (wp S 177 0 [some (qs 28)] [] t1 D1 (fun x2 t2 D2 =>
      (wp S 188 793 [some qx, some (qs 0), some (qs 28), some (qi l3)] [(qi x2), (qi x1)] t2 D2 Q))))) : wp S 188 785 [some qx, some (qs 0), some (qs 28), some (qi l3)] [] t D Q := vc_ok (cuts := [18, 156, 174, 179, 187, 192, 200, 205, 213, 218, 256, 261, 299, 304, 342, 347, 375, 380, 398, 403, 421, 426, 444, 449, 477, 482, 490, 495, 513, 518, 556, 561, 569, 574, 602, 607, 615, 620, 638, 643, 671, 676, 724, 729, 737, 742, 780, 785, 793, 798, 806, 811, 829, 834, 848]) 600 785 _ _ _ _ h
set_option maxRecDepth 100000 in
theorem b188_798 {S : (Nat → Int32) × Nat} {t : qT} {D : qD} {Q : Int → qT → qD → Prop} {l3 : Int} (h :
wp S 92 0 [some (qs 0)] [] t D (fun x1 t1 D1 =>
  (wp S 178 0 [some (qs 28)] [] t1 D1 (fun x2 t2 D2 =>
      (wp S 188 806 [some qx, some (qs 0), some (qs 28), some (qi l3)] [(qi x2), (qi x1)] t2 D2 Q))))) : wp S 188 798 [some qx, some (qs 0), some (qs 28), some (qi l3)] [] t D Q := vc_ok (cuts := [18, 156, 174, 179, 187, 192, 200, 205, 213, 218, 256, 261, 299, 304, 342, 347, 375, 380, 398, 403, 421, 426, 444, 449, 477, 482, 490, 495, 513, 518, 556, 561, 569, 574, 602, 607, 615, 620, 638, 643, 671, 676, 724, 729, 737, 742, 780, 785, 793, 798, 806, 811, 829, 834, 848]) 600 798 _ _ _ _ h
set_option maxRecDepth 100000 in
theorem b188_811 {S : (Nat → Int32) × Nat} {t : qT} {D : qD} {Q : Int → qT → qD → Prop} {l3 : Int} (h :
chk (0 ≤ (l3 + 1) ∧ (l3 + 1) < S.2 ∧ (l3 + 1) < 2147483648)
(wp S 93 0 [some (qs 0), some (qi (S.1 ((l3 + 1)).toNat).toInt)] [] t D (fun x1 t1 D1 =>
    (chk (0 ≤ (l3 + 1) ∧ (l3 + 1) < S.2 ∧ (l3 + 1) < 2147483648)
      (wp S 182 0 [some (qs 28), some (qi (S.1 ((l3 + 1)).toNat).toInt)] [] t1 D1 (fun x2 t2 D2 =>
          (wp S 188 829 [some qx, some (qs 0), some (qs 28), some (qi l3)] [(qi x2), (qi x1)] t2 D2 Q))))))) : wp S 188 811 [some qx, some (qs 0), some (qs 28), some (qi l3)] [] t D Q := vc_ok (cuts := [18, 156, 174, 179, 187, 192, 200, 205, 213, 218, 256, 261, 299, 304, 342, 347, 375, 380, 398, 403, 421, 426, 444, 449, 477, 482, 490, 495, 513, 518, 556, 561, 569, 574, 602, 607, 615, 620, 638, 643, 671, 676, 724, 729, 737, 742, 780, 785, 793, 798, 806, 811, 829, 834, 848]) 600 811 _ _ _ _ h
set_option maxRecDepth 100000 in
theorem b188_834 {S : (Nat → Int32) × Nat} {t : qT} {D : qD} {Q : Int → qT → qD → Prop} {l3 : Int} (h :
wp S 94 0 [some (qs 0), none, none, none, none] [] t D (fun x1 t1 D1 =>
  (wp S 186 0 [some (qs 28), none, none] [] t1 D1 (fun x2 t2 D2 =>
      (chk (x1 = x2 ∨ (qR64 x1 ∧ qR64 x2))
        (chk (qR (qcmp x1 x2))
          (if (qcmp x1 x2) = 0 then
            (wp S 188 848 [some qx, some (qs 0), some (qs 28), some (qi l3)] [] t2 D2 Q)
            else
            (Q 0 t2 D2)))))))) : wp S 188 834 [some qx, some (qs 0), some (qs 28), some (qi l3)] [] t D Q := vc_ok (cuts := [18, 156, 174, 179, 187, 192, 200, 205, 213, 218, 256, 261, 299, 304, 342, 347, 375, 380, 398, 403, 421, 426, 444, 449, 477, 482, 490, 495, 513, 518, 556, 561, 569, 574, 602, 607, 615, 620, 638, 643, 671, 676, 724, 729, 737, 742, 780, 785, 793, 798, 806, 811, 829, 834, 848]) 600 834 _ _ _ _ h
set_option maxRecDepth 100000 in
theorem b188_848 {S : (Nat → Int32) × Nat} {t : qT} {D : qD} {Q : Int → qT → qD → Prop} {l3 : Int} (h :
wp S 188 18 [some qx, some (qs 0), some (qs 28), some (qi (l3 + 5))] [] t D Q) : wp S 188 848 [some qx, some (qs 0), some (qs 28), some (qi l3)] [] t D Q := vc_ok (cuts := [18, 156, 174, 179, 187, 192, 200, 205, 213, 218, 256, 261, 299, 304, 342, 347, 375, 380, 398, 403, 421, 426, 444, 449, 477, 482, 490, 495, 513, 518, 556, 561, 569, 574, 602, 607, 615, 620, 638, 643, 671, 676, 724, 729, 737, 742, 780, 785, 793, 798, 806, 811, 829, 834, 848]) 600 848 _ _ _ _ h
