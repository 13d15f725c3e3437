def SN (D : qD) (a k : Nat) (op : Int → Int) (f : Int) (M n : Nat) : Prop :=
  (D a 4 = (sR op f n).2 ∧ D a 6 = adN op f n ∧ D a 7 = cA op f n) ∧ (∀ w, 0 ≤ w → w < 4 → D (a + 1) w = (sR op f n).1 w) ∧ (∀ i, 0 ≤ i → i < 4 * (sR op f n).2 → D (a + 2) i = (sR op f n).1 (4 + i)) ∧
  (∀ x, 0 ≤ x → x < adN op f n → ROWX op f M x (fun w => D (k + 1) ((f * 10 + x) * 6 + w)) (D (k + 1) ((f * 10 + x) * 6 + 4)) (D (k + 1) ((f * 10 + x) * 6 + 5))) ∧
  D (k + 3) f = svN op f n ∧ ∀ j : Nat, j < n → op (24 * f + 3 * j) = 115 → D (k + 2) ((f * 8 + svN op f j) * 3) = adN op f j ∧ D (k + 2) ((f * 8 + svN op f j) * 3 + 1) = op (24 * f + 3 * j + 1) ∧ D (k + 2) ((f * 8 + svN op f j) * 3 + 2) = op (24 * f + 3 * j + 2)
def FRS (D D' : qD) (a k : Nat) (f : Int) : Prop := (∀ b, b ≠ a → b ≠ a + 1 → b ≠ a + 2 → b ≠ k + 1 → b ≠ k + 2 → b ≠ k + 3 → b ≠ k + 4 → b ≠ k + 5 → D' b = D b) ∧ (∀ i, ¬ (60 * f ≤ i ∧ i < 60 * f + 60) → D' (k + 1) i = D (k + 1) i) ∧
  (∀ i, ¬ (24 * f ≤ i ∧ i < 24 * f + 24) → D' (k + 2) i = D (k + 2) i) ∧ (∀ i, i ≠ f → D' (k + 3) i = D (k + 3) i ∧ D' (k + 5) i = D (k + 5) i) ∧ (∀ i, ¬ (15 * f ≤ i ∧ i < 15 * f + 15) → D' (k + 4) i = D (k + 4) i)
theorem FRS.trans {D E F : qD} {a k : Nat} {f : Int} (h : FRS D E a k f) (g : FRS E F a k f) : FRS D F a k f := by
  obtain ⟨h1, h2, h3, h4, h5⟩ := h
  obtain ⟨g1, g2, g3, g4, g5⟩ := g
  exact ⟨fun b x1 x2 x3 x4 x5 x6 x7 x8 => (g1 b x1 x2 x3 x4 x5 x6 x7 x8).trans (h1 b x1 x2 x3 x4 x5 x6 x7 x8), fun i hi => (g2 i hi).trans (h2 i hi), fun i hi => (g3 i hi).trans (h3 i hi), fun i hi => ⟨(g4 i hi).1.trans (h4 i hi).1, (g4 i hi).2.trans (h4 i hi).2⟩, fun i hi => (g5 i hi).trans (h5 i hi)⟩
theorem FRS.low {D E : qD} {a k : Nat} {f : Int} (h : ∀ b, b ≠ a → b ≠ a + 1 → b ≠ a + 2 → E b = D b) (hk : k + 5 < a) : FRS D E a k f :=
  ⟨fun b x1 x2 x3 _ _ _ _ _ => h b x1 x2 x3, fun i _ => by rw [h _ (by omega) (by omega) (by omega)], fun i _ => by rw [h _ (by omega) (by omega) (by omega)], fun i _ => by rw [h _ (by omega) (by omega) (by omega), h _ (by omega) (by omega) (by omega)]; exact ⟨rfl, rfl⟩, fun i _ => by rw [h _ (by omega) (by omega) (by omega)]⟩
section KU
variable {S : (Nat → Int32) × Nat} {t : qT} {D G : qD} {Q : Int → qT → qD → Prop} {k a : Nat} {f : Int} {op : Int → Int} {M n : Nat}
/-- an op that lays nothing but the saved -/
theorem SN.nx (hV : OV op f M) (hn : n < M) (h : SN D a k op f M n) (hk : k + 5 < a) {D' : qD} (c43 : ¬ op (24 * f + 3 * n) = 43) (c115 : ¬ op (24 * f + 3 * n) = 115) (hF : ∀ b, b ≠ a → b ≠ a + 1 → b ≠ a + 2 → D' b = D b)
    (h4 : D' a 4 = (sR op f (n + 1)).2) (h6 : D' a 6 = D a 6) (h7 : D' a 7 = D a 6) (h1 : ∀ w, 0 ≤ w → w < 4 → D' (a + 1) w = (sR op f (n + 1)).1 w) (h2 : ∀ i, 0 ≤ i → i < 4 * (sR op f (n + 1)).2 → D' (a + 2) i = (sR op f (n + 1)).1 (4 + i)) : SN D' a k op f M (n + 1) := by
  obtain ⟨⟨s1, s2, s3⟩, s4, s5, s6, s7, s8⟩ := h
  have ea : adN op f (n + 1) = adN op f n + if op (24 * f + 3 * n) = 43 then op (24 * f + 3 * n + 1) else 0 := rfl
  have ec : cA op f (n + 1) = if op (24 * f + 3 * n) = 43 then cA op f n else adN op f n := rfl
  have es : svN op f (n + 1) = svN op f n + if op (24 * f + 3 * n) = 115 then 1 else 0 := rfl
  rw [if_neg c43, Int.add_zero] at ea
  rw [if_neg c43] at ec
  rw [if_neg c115, Int.add_zero] at es
  unfold SN
  rw [ea, ec, es, hF (k + 1) (by omega) (by omega) (by omega), hF (k + 2) (by omega) (by omega) (by omega), hF (k + 3) (by omega) (by omega) (by omega)]
  refine ⟨⟨h4, h6.trans s2, h7.trans s2⟩, h1, h2, s6, s7, fun j hj h115 => ?_⟩
  by_cases c : j = n
  · rw [c] at h115; exact absurd h115 c115
  · exact s8 j (by omega) h115
theorem c11 {ad r c sv : Int} (hO : SO t a k) (hf : 0 ≤ f ∧ f < 3) (hsv : D (k + 3) f = sv) (h8 : 0 ≤ sv ∧ sv < 8) (q : Q 0 t (up (up (up (up D (k + 2) ((f * 8 + sv) * 3) ad) (k + 2) ((f * 8 + sv) * 3 + 1) r) (k + 2) ((f * 8 + sv) * 3 + 2) c) (k + 3) f (sv + 1))) :
    wp S 11 0 [some (qr k), some (qi f), some (qi ad), some (qi r), some (qi c), none] [] t D Q := by
  obtain ⟨-, -, o8, ⟨o9, o10, o11, o12, o13⟩, -, -⟩ := hO
  obtain ⟨w0, w1, w2, w3, w4, w5⟩ := o8
  rw [o10] at w2
  rw [o11] at w3
  refine b11_0 ?_
  have e : ∀ (x y z u v w : Int), up (up (up D (k + 2) x y) (k + 2) z u) (k + 2) v w (k + 3) f = sv := fun x y z u v w => by rw [up_eq, up_eq, up_eq, upr_n (by omega), upr_n (by omega), upr_n (by omega), hsv]
  rw [o10, o11, e, hsv]
  exact chk_i w0.1 (chk_i w3.1 (chk_i (by omega) (chk_i (by omega) (ite_i (fun _ => chk_i w0.1 (chk_i w3.1 (chk_i (by omega) (chk_i w0.1 (chk_i w2.1 (chk_i (by omega) (chk_i w0.1 (chk_i w2.1 (chk_i (by omega) (chk_i w0.1 (chk_i w2.1 (chk_i (by omega) (chk_i w0.1 (chk_i w3.1 (chk_i (by omega) (chk_i w3.1 (chk_i (by omega) q))))))))))))))))) fun z => absurd h8.2 z))))
theorem c59m {d : Int} (hO : SO t a k) (hd : D a 4 = d) (h3 : 0 ≤ d ∧ d < 3) (q : ∀ D', (∀ b, b ≠ a → b ≠ a + 2 → D' b = D b) → (∀ i, i ≠ 4 → D' a i = D a i) → D' a 4 = d + 1 → (∀ i, D' (a + 2) i = if 4 * d ≤ i ∧ i < 4 * d + 4 then D (a + 1) (i - 4 * d) else D (a + 2) i) → Q 0 t D') : wp S 57 0 [some (qr a), some (qi 109)] [] t D Q := by
  obtain ⟨⟨o1, o2, o3, o4, o5⟩, ⟨o6, o7⟩, o8, -, o14, o15⟩ := hO
  refine b59_0 (chk_i (by decide) ?_)
  rw [if_pos rfl, o4, o5]
  have e : ∀ X, upr D (a + 2) X a 4 = d := fun X => by rw [upr_n (by omega), hd]
  rw [e, hd]
  refine chk_i o1 (chk_i (by omega) (ite_i (fun _ => chk_i o1 (chk_i o1 (chk_i o1 (chk_i (by rw [o7]) (chk_i (by rw [o6]) (chk_i ?_ (chk_i o1 (chk_i o1 ?_)))))))) fun z => absurd h3.2 z))
  · rw [o6, o7]
    exact ⟨by omega, by omega, by omega, by show (0 : Int) + 4 ≤ 4; omega, by show d * 4 + 4 ≤ 12; omega⟩
  · refine q _ (fun b b1 b2 => by rw [up_eq, upr_n b1, upr_n b2]) (fun i hi => by rw [up_eq, upr_s, ui_n hi, upr_n (by omega)]) (by rw [up_eq, upr_s, ui_s]) fun i => ?_
    rw [up_eq, upr_n (by omega), upr_s]
    unfold q_cp
    by_cases c : 4 * d ≤ i ∧ i < 4 * d + 4
    · rw [if_pos c, if_pos (by omega), show 0 + (i - d * 4) = i - 4 * d by omega]
    · rw [if_neg c, if_neg (by omega)]
theorem c59b {d : Int} (hO : SO t a k) (hd : D a 4 = d) (h3 : 0 < d ∧ d ≤ 3) (q : ∀ D', (∀ b, b ≠ a → b ≠ a + 1 → D' b = D b) → (∀ i, i ≠ 4 → D' a i = D a i) → D' a 4 = d - 1 → (∀ w, 0 ≤ w → w < 4 → D' (a + 1) w = D (a + 2) (4 * (d - 1) + w)) → Q 0 t D') : wp S 57 0 [some (qr a), some (qi 98)] [] t D Q := by
  obtain ⟨⟨o1, o2, o3, o4, o5⟩, ⟨o6, o7⟩, o8, -, o14, o15⟩ := hO
  refine b59_0 (chk_i (by decide) ?_)
  rw [if_neg (by decide), o4, o5]
  have e : up D a 4 (D a 4 - 1) a 4 = d - 1 := by rw [up_eq, upr_s, ui_s, hd]
  rw [e, hd]
  refine chk_i (by decide) ?_
  rw [if_pos rfl]
  refine chk_i o1 (chk_i (by omega) (ite_i (fun _ => chk_i o1 (chk_i o1 (chk_i o1 (chk_i o1 (chk_i o1 (chk_i (by rw [o6]) (chk_i (by rw [o7]) (chk_i ?_ ?_)))))))) fun z => absurd h3.1 z))
  · rw [o6, o7]
    exact ⟨by omega, by omega, by omega, by show (d - 1) * 4 + 4 ≤ 12; omega, by show (0 : Int) + 4 ≤ 4; omega⟩
  · refine q _ (fun b b1 b2 => by rw [upr_n b2, up_eq, upr_n b1]) (fun i hi => by rw [upr_n (by omega), up_eq, upr_s, ui_n hi]) (by rw [upr_n (by omega), up_eq, upr_s, ui_s]) fun w w0 w1 => ?_
    rw [upr_s]
    unfold q_cp
    rw [if_pos (by omega), up_eq, upr_n (by omega), show (d - 1) * 4 + (w - 0) = 4 * (d - 1) + w by omega]
end KU
