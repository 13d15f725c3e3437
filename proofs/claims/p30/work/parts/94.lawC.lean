/-! ## the law's machine: it comes to an address, is called, goes back -/
def MW (am aw : Nat) (D : qD) (N : Int → Int) : Prop := (∀ k, 0 ≤ k → k < 4 → D am k = N (9 + k)) ∧ D am 4 = N 13 ∧ ∀ i, 0 ≤ i → i < 64 → D aw i = N (14 + i)
theorem MW.ui {am aw : Nat} {D : qD} {N : Int → Int} {i v : Int} (h : MW am aw D N) (hne : am ≠ aw) (hi : 0 ≤ i ∧ i < 64) : MW am aw (up D aw i v) (ui N (14 + i) v) := by
  refine ⟨fun k x y => ?_, ?_, fun j x y => ?_⟩
  · rw [up_eq, upr_n hne, ui_n (by omega)]; exact h.1 k x y
  · rw [up_eq, upr_n hne, ui_n (by omega)]; exact h.2.1
  · rw [up_eq, upr_s]
    by_cases c : j = i
    · rw [c, ui_s, ui_s]
    · rw [ui_n c, ui_n (by omega)]; exact h.2.2 j x y
theorem MW.cg {am aw : Nat} {D D' : qD} {N M : Int → Int} (h : MW am aw D N) (h1 : D' am = D am) (h2 : D' aw = D aw) (e : ∀ i, 9 ≤ i → i < 78 → M i = N i) : MW am aw D' M := by
  refine ⟨fun k x y => ?_, ?_, fun j x y => ?_⟩
  · rw [h1, e _ (by omega) (by omega)]; exact h.1 k x y
  · rw [h1, e _ (by omega) (by omega)]; exact h.2.1
  · rw [h2, e _ (by omega) (by omega)]; exact h.2.2 j x y
theorem sSv_end {om op : Int → Int} {f a : Int} {n adr : Int} {N : Int → Int} (h : ¬ n < om f) : ∀ k : Nat, sSv om op f a k n adr N = N := by
  intro k
  cases k with
  | zero => rfl
  | succ k => exact if_neg h
section LC
variable {S : (Nat → Int32) × Nat} {t : qT} {D : qD} {Q : Int → qT → qD → Prop} {E D0 : qD} {f am aw : Nat} {adr : Int} {N : Int → Int}
set_option maxHeartbeats 4000000 in
theorem r102_31 {a b l5 : Int} (hB : BK (D0 28) (D0 30) E f) (hm : AR t am 6) (hw : AR t aw 64) (hne : am ≠ aw) (ha : a = 14 + 8 * b) (hb : 0 ≤ b ∧ b < 8) (h5 : l5 = a - 14) (hadr : 0 ≤ adr ∧ adr ≤ 9) : ∀ (m n k : Nat) (D : qD) (M : Int → Int) (o8 : Option qV) (l6 l7 : Int), n + m = (E 37 f).toNat → m ≤ k → l6 = fPos (E 37) (E 38) (E 39) f + oLen (E 39) f n → l7 = adN (E 39) f n → (∀ b, b ≠ aw → D b = D0 b) → MW am aw D M → M (a + 1) = adr → (∀ D', (∀ b, b ≠ aw → D' b = D0 b) → MW am aw D' (sSv (E 37) (E 39) f a k n l7 M) → Q 0 t D') → wp S 102 31 [some (qs 28), some (qs 30), some (qr am), some (qr aw), some (qi adr), some (qi l5), some (qi l6), some (qi l7), o8] [] t D Q := by
  have hV := hB.ov
  have hA1 := hm.k1
  have hW1 := hw.k1
  have hA2 : (t.1 am).2 = 6 := by rw [hm.1]
  have hW2 : (t.1 aw).2 = 64 := by rw [hw.1]
  have h31 := hw.2.1
  have hom := hB.2.1.1
  intro m
  induction m with
  | zero =>
    intro n k D M o8 l6 l7 hn hk e6 e7 hD hM hA q
    have hn : n = (E 37 f).toNat := by omega
    have d30 : D 30 = D0 30 := hD 30 (by omega)
    have h0 := oLe (E 39) f (E 37 f).toNat 0 (Nat.zero_le _)
    have e0 : oLen (E 39) f 0 = 0 := rfl
    have g := hB.2.1.2.2.1
    have hb := hB.2.2.2.1
    rw [← hn] at g
    rw [← hn] at hb h0
    have g0 : D 30 l6 = 59 := by rw [d30, e6]; exact g
    apply lb102_31
    rw [g0]
    rw [sSv_end (by omega)] at q
    exact chk_i (by omega) (chk_i (by omega) (ite_i (fun _ => q D hD hM) fun h => absurd rfl h))
  | succ m ih =>
    intro n k D M o8 l6 l7 hn hk e6 e7 hD hM hA q
    obtain ⟨k, rfl⟩ : ∃ j, k = j + 1 := ⟨k - 1, by omega⟩
    have hnM : n < (E 37 f).toNat := by omega
    have hd := hV.d n (by omega)
    have hd1 := hV.d (n + 1) (by omega)
    obtain ⟨p, c, e1, e2, e3, e4, e5, e8⟩ := hB.op hnM
    have e6 : l6 = p := e6.trans e1
    subst e6
    have d30 : D 30 = D0 30 := hD 30 (by omega)
    have ea : adN (E 39) f (n + 1) = adN (E 39) f n + if E 39 (24 * f + 3 * n) = 43 then E 39 (24 * f + 3 * n + 1) else 0 := rfl
    have eS : sSv (E 37) (E 39) f a (k + 1) n l7 M = if (n : Int) < E 37 f then
      (if E 39 (24 * f + 3 * n) = 43 then sSv (E 37) (E 39) f a k (n + 1) (l7 + E 39 (24 * f + 3 * n + 1)) M
       else if E 39 (24 * f + 3 * n) = 115 ∧ l7 = M (a + 1) then sSv (E 37) (E 39) f a k (n + 1) l7 (ui M (a + 2 + E 39 (24 * f + 3 * n + 2)) (M (9 + E 39 (24 * f + 3 * n + 1))))
       else sSv (E 37) (E 39) f a k (n + 1) l7 M) else M := rfl
    rw [if_pos (by omega)] at eS
    rw [e2] at ea eS
    rw [eS] at q
    have g0 : D 30 l6 = c := by rw [d30]; exact e3
    apply lb102_31
    rw [g0]
    rcases e8 with ⟨rfl, k1, k2⟩ | ⟨rfl, k1, k2, k3, k4⟩ | ⟨rfl, k1, k2⟩ | rfl | rfl
    · have g1 : D 30 (l6 + 1) = 48 + E 39 (24 * f + 3 * n + 1) := by rw [d30]; exact k1
      rw [if_pos rfl] at ea q
      have z : zDig 43 = 1 := rfl
      refine chk_i (by first | assumption | decide | omega) ?_
      refine chk_i (by first | assumption | decide | omega) ?_
      refine ite_i (fun h => absurd h (by first | decide | omega)) (fun _ => ?_)
      refine chk_i (by first | assumption | decide | omega) ?_
      refine chk_i (by first | assumption | decide | omega) ?_
      refine ite_i (fun _ => ?_) (fun h => absurd (by first | rfl | decide | omega) h)
      refine chk_i (by first | assumption | decide | omega) ?_
      rw [g1, show l7 + (48 + E 39 (24 * f + 3 * n + 1) - 48) = l7 + E 39 (24 * f + 3 * n + 1) by omega]
      exact ih (n + 1) k D M _ _ _ (by omega) (by omega) (by omega) (by omega) hD hM hA q
    · have g1 : D 30 (l6 + 1) = 48 + E 39 (24 * f + 3 * n + 1) := by rw [d30]; exact k1
      have g2 : D 30 (l6 + 1 + 1) = 48 + E 39 (24 * f + 3 * n + 2) := by rw [d30, show l6 + 1 + 1 = l6 + 2 by omega]; exact k2
      rw [if_neg (by decide)] at ea q
      have z : zDig 115 = 2 := rfl
      rw [g1, g2]
      refine chk_i (by first | assumption | decide | omega) ?_
      refine chk_i (by first | assumption | decide | omega) ?_
      refine ite_i (fun h => absurd h (by first | decide | omega)) (fun _ => ?_)
      refine chk_i (by first | assumption | decide | omega) ?_
      refine chk_i (by first | assumption | decide | omega) ?_
      refine ite_i (fun h => absurd h (by first | decide | omega)) (fun _ => ?_)
      refine chk_i (by first | assumption | decide | omega) ?_
      refine ite_i (fun _ => ?_) (fun h => absurd (by first | rfl | decide | omega) h)
      refine chk_i (by first | assumption | decide | omega) ?_
      refine chk_i (by first | assumption | decide | omega) ?_
      refine ite_i (fun hl => ?_) fun hl => ?_
      · refine chk_i (by first | assumption | decide | omega) ?_
        refine chk_i (by first | assumption | decide | omega) ?_
        refine chk_i (by first | assumption | decide | omega) ?_
        refine chk_i (by first | assumption | decide | omega) ?_
        refine chk_i (by first | assumption | decide | omega) ?_
        refine chk_i (by first | assumption | decide | omega) ?_
        rw [if_pos ⟨rfl, by omega⟩] at q
        have em : D am (48 + E 39 (24 * f + 3 * n + 1) - 48) = M (9 + E 39 (24 * f + 3 * n + 1)) := by
          rw [show 48 + E 39 (24 * f + 3 * n + 1) - 48 = E 39 (24 * f + 3 * n + 1) by omega]; exact hM.1 _ (by omega) (by omega)
        rw [em]
        refine ih (n + 1) k _ (ui M (a + 2 + E 39 (24 * f + 3 * n + 2)) (M (9 + E 39 (24 * f + 3 * n + 1)))) _ _ _ (by omega) (by omega) (by omega) (by omega) (fun b hb => by rw [up_eq, upr_n hb]; exact hD b hb) ?_ (by rw [ui_n (by omega)]; exact hA) q
        have := hM.ui (i := l5 + 2 + (48 + E 39 (24 * f + 3 * n + 2)) - 48) (v := M (9 + E 39 (24 * f + 3 * n + 1))) hne ⟨by omega, by omega⟩
        rw [show 14 + (l5 + 2 + (48 + E 39 (24 * f + 3 * n + 2)) - 48) = a + 2 + E 39 (24 * f + 3 * n + 2) by omega] at this
        exact this
      · rw [if_neg (fun h => hl (by omega))] at q
        exact ih (n + 1) k D M _ _ _ (by omega) (by omega) (by omega) (by omega) hD hM hA q
    · rw [if_neg (by decide)] at ea q
      rw [if_neg (fun h => absurd h.1 (by decide))] at q
      have z : zDig 117 = 1 := rfl
      refine chk_i (by first | assumption | decide | omega) ?_
      refine chk_i (by first | assumption | decide | omega) ?_
      refine ite_i (fun h => absurd h (by first | decide | omega)) (fun _ => ?_)
      refine chk_i (by first | assumption | decide | omega) ?_
      refine chk_i (by first | assumption | decide | omega) ?_
      refine ite_i (fun h => absurd h (by first | decide | omega)) (fun _ => ?_)
      refine chk_i (by first | assumption | decide | omega) ?_
      refine ite_i (fun h => absurd h (by first | decide | omega)) (fun _ => ?_)
      refine chk_i (by first | assumption | decide | omega) ?_
      refine ite_i (fun _ => ?_) (fun h => absurd (by first | rfl | decide | omega) h)
      exact ih (n + 1) k D M _ _ _ (by omega) (by omega) (by omega) (by omega) hD hM hA q
    · rw [if_neg (by decide)] at ea q
      rw [if_neg (fun h => absurd h.1 (by decide))] at q
      have z : zDig 109 = 0 := rfl
      refine chk_i (by first | assumption | decide | omega) ?_
      refine chk_i (by first | assumption | decide | omega) ?_
      refine ite_i (fun h => absurd h (by first | decide | omega)) (fun _ => ?_)
      refine chk_i (by first | assumption | decide | omega) ?_
      refine chk_i (by first | assumption | decide | omega) ?_
      refine ite_i (fun h => absurd h (by first | decide | omega)) (fun _ => ?_)
      refine chk_i (by first | assumption | decide | omega) ?_
      refine ite_i (fun h => absurd h (by first | decide | omega)) (fun _ => ?_)
      refine chk_i (by first | assumption | decide | omega) ?_
      refine ite_i (fun h => absurd h (by first | decide | omega)) (fun _ => ?_)
      exact ih (n + 1) k D M _ _ _ (by omega) (by omega) (by omega) (by omega) hD hM hA q
    · rw [if_neg (by decide)] at ea q
      rw [if_neg (fun h => absurd h.1 (by decide))] at q
      have z : zDig 98 = 0 := rfl
      refine chk_i (by first | assumption | decide | omega) ?_
      refine chk_i (by first | assumption | decide | omega) ?_
      refine ite_i (fun h => absurd h (by first | decide | omega)) (fun _ => ?_)
      refine chk_i (by first | assumption | decide | omega) ?_
      refine chk_i (by first | assumption | decide | omega) ?_
      refine ite_i (fun h => absurd h (by first | decide | omega)) (fun _ => ?_)
      refine chk_i (by first | assumption | decide | omega) ?_
      refine ite_i (fun h => absurd h (by first | decide | omega)) (fun _ => ?_)
      refine chk_i (by first | assumption | decide | omega) ?_
      refine ite_i (fun h => absurd h (by first | decide | omega)) (fun _ => ?_)
      exact ih (n + 1) k D M _ _ _ (by omega) (by omega) (by omega) (by omega) hD hM hA q
theorem r102 (hT : TB (D 28) (D 30) E) (hm : AR t am 6) (hw : AR t aw 64) (hne : am ≠ aw) (hN : MW am aw D N) (h13 : 1 ≤ N 13 ∧ N 13 ≤ 8) (hf : 0 ≤ N (sAt N 0) ∧ N (sAt N 0) < E 28 14) (hadr : 0 ≤ adr ∧ adr ≤ 9) (q : ∀ D', (∀ b, b ≠ aw → D' b = D b) → MW am aw D' (sSv (E 37) (E 39) (N (sAt N 0)) (sAt N 0) 8 0 0 (ui N (sAt N 0 + 1) adr)) → Q 0 t D') : wp S 102 0 [some (qs 28), some (qs 30), some (qr am), some (qr aw), some (qi adr), none, none, none, none] [] t D Q := by
  have hA1 := hm.k1
  have hW1 := hw.k1
  have hA2 : (t.1 am).2 = 6 := by rw [hm.1]
  have hW2 : (t.1 aw).2 = 64 := by rw [hw.1]
  have h31 := hw.2.1
  obtain ⟨f, ef⟩ : ∃ f : Nat, N (sAt N 0) = f := ⟨(N (sAt N 0)).toNat, by omega⟩
  have hB := hT.2.2 f (by omega)
  have hf3 := hB.2.2.2.2.2
  have hom := hB.2.1.1
  have e4 : D am 4 = N 13 := hN.2.1
  have eat : sAt N 0 = 14 + 8 * (N 13 - 1) := by unfold sAt; omega
  have ew : D aw (8 * (N 13 - 1)) = f := by rw [hN.2.2 _ (by omega) (by omega), ← eat]; exact ef
  apply lb102_0
  rw [e4, up_eq, upr_s, upr_n (show 28 ≠ aw by omega), ui_n (by omega), ew]
  refine chk_i (by first | assumption | decide | omega) ?_
  refine chk_i (by first | assumption | decide | omega) ?_
  refine chk_i (by first | assumption | decide | omega) ?_
  refine chk_i (by first | assumption | decide | omega) ?_
  refine chk_i (by first | assumption | decide | omega) ?_
  refine chk_i (by first | assumption | decide | omega) ?_
  refine chk_i (by first | assumption | decide | omega) ?_
  rw [ef, eat] at q
  refine r102_31 (D0 := upr D aw (ui (D aw) (8 * (N 13 - 1) + 1) adr)) (f := f) (a := 14 + 8 * (N 13 - 1)) (b := N 13 - 1) (by rw [upr_n (by omega), upr_n (by omega)]; exact hB) hm hw hne rfl (by omega) (by omega) hadr (E 37 f).toNat 0 8 _ (ui N (14 + 8 * (N 13 - 1) + 1) adr) _ _ _ (Nat.zero_add _) (by omega) ?_ rfl (fun _ _ => rfl) ?_ (ui_s) fun D' j1 j2 => q D' (fun b hb => by rw [j1 b hb, upr_n hb]) j2
  · rw [hB.1.1]; exact (Int.add_zero _).symm
  · have := hN.ui (i := 8 * (N 13 - 1) + 1) (v := adr) hne ⟨by omega, by omega⟩
    rw [up_eq, show 14 + (8 * (N 13 - 1) + 1) = 14 + 8 * (N 13 - 1) + 1 by omega] at this
    exact this
theorem r103_20 {fi : Int} (hT : TB (D0 28) (D0 30) E) (hm : AR t am 6) (hw : AR t aw 64) (hne : am ≠ aw) (h13 : 0 ≤ N 13 ∧ N 13 < 8) (hf : 0 ≤ fi ∧ fi < E 28 14) : ∀ (m : Nat) (j : Int) (D : qD), j + m = 8 → 0 ≤ j → (∀ b, b ≠ am → b ≠ aw → D b = D0 b) → MW am aw D (cpf (ui N 13 (N 13 + 1)) (fun _ => 0) (14 + 8 * N 13) (14 + 8 * N 13 + j)) → (∀ D', (∀ b, b ≠ am → b ≠ aw → D' b = D0 b) → MW am aw D' (sCall (E 37) (E 39) N fi) → Q 0 t D') → wp S 103 20 [some (qs 28), some (qs 30), some (qr am), some (qr aw), some (qi fi), some (qi (8 * N 13)), some (qi j)] [] t D Q := by
  have hA1 := hm.k1
  have hW1 := hw.k1
  have hA2 : (t.1 am).2 = 6 := by rw [hm.1]
  have hW2 : (t.1 aw).2 = 64 := by rw [hw.1]
  have h31 := hw.2.1
  have h31' := hm.2.1
  intro m
  induction m with
  | zero =>
    intro j D hj h0 hD hM q
    have ej : j = 8 := by omega
    subst ej
    apply lb103_20
    refine chk_i (by first | assumption | decide | omega) ?_
    refine ite_i (fun h => absurd h (by first | decide | omega)) (fun _ => ?_)
    refine chk_i (by first | assumption | decide | omega) ?_
    refine chk_i (by first | assumption | decide | omega) ?_
    have hM2 := hM.ui (i := 8 * N 13) (v := fi) hne ⟨by omega, by omega⟩
    rw [show 14 + 8 * N 13 = 14 + 8 * N 13 from rfl] at hM2
    generalize hR : ui (cpf (ui N 13 (N 13 + 1)) (fun _ => 0) (14 + 8 * N 13) (14 + 8 * N 13 + 8)) (14 + 8 * N 13) fi = R at hM2
    have r13 : R 13 = N 13 + 1 := by rw [← hR, ui_n (by omega), cpf_n (by omega), ui_s]
    have rat : sAt R 0 = 14 + 8 * N 13 := by unfold sAt; omega
    have rf : R (14 + 8 * N 13) = fi := by rw [← hR, ui_s]
    have ra : R (14 + 8 * N 13 + 1) = 0 := by rw [← hR, ui_n (by omega), cpf_y (by omega)]
    refine r102 (N := R) (by rw [up_eq, upr_n (by omega), upr_n (by omega), hD 28 (by omega) (by omega), hD 30 (by omega) (by omega)]; exact hT) hm hw hne hM2 (by omega) (by rw [rat, rf]; exact hf) (by omega) fun D' j1 j2 => q D' (fun b h1 h2 => by rw [j1 b h2, up_eq, upr_n h2]; exact hD b h1 h2) ?_
    rw [rat, rf] at j2
    have eq1 : ui R (14 + 8 * N 13 + 1) 0 = R := by have h := ui_id R (14 + 8 * N 13 + 1); rw [ra] at h; exact h
    rw [eq1] at j2
    unfold sCall sClr
    rw [hR]
    exact j2
  | succ m ih =>
    intro j D hj h0 hD hM q
    apply lb103_20
    refine chk_i (by first | assumption | decide | omega) ?_
    refine ite_i (fun _ => ?_) (fun h => absurd (by first | rfl | decide | omega) h)
    refine chk_i (by first | assumption | decide | omega) ?_
    refine chk_i (by first | assumption | decide | omega) ?_
    refine ih (j + 1) _ (by omega) (by omega) (fun b h1 h2 => by rw [up_eq, upr_n h2]; exact hD b h1 h2) ?_ q
    have := hM.ui (i := 8 * N 13 + j) (v := 0) hne ⟨by omega, by omega⟩
    rw [show 14 + (8 * N 13 + j) = 14 + 8 * N 13 + j by omega] at this
    have e := cpf_s (R := ui N 13 (N 13 + 1)) (g := fun _ => 0) (lo := 14 + 8 * N 13) (hi := 14 + 8 * N 13 + j) (by omega)
    rw [show 14 + 8 * N 13 + (j + 1) = 14 + 8 * N 13 + j + 1 by omega, ← e]
    exact this
theorem r103 {fi : Int} (hT : TB (D 28) (D 30) E) (hm : AR t am 6) (hw : AR t aw 64) (hne : am ≠ aw) (hN : MW am aw D N) (h13 : 0 ≤ N 13 ∧ N 13 < 8) (hf : 0 ≤ fi ∧ fi < E 28 14) (q : ∀ D', (∀ b, b ≠ am → b ≠ aw → D' b = D b) → MW am aw D' (sCall (E 37) (E 39) N fi) → Q 0 t D') : wp S 103 0 [some (qs 28), some (qs 30), some (qr am), some (qr aw), some (qi fi), none, none] [] t D Q := by
  have hA1 := hm.k1
  have hA2 : (t.1 am).2 = 6 := by rw [hm.1]
  have e4 : D am 4 = N 13 := hN.2.1
  apply lb103_0
  refine chk_i (by first | assumption | decide | omega) ?_
  refine chk_i (by first | assumption | decide | omega) ?_
  refine chk_i (by first | assumption | decide | omega) ?_
  refine chk_i (by first | assumption | decide | omega) ?_
  refine chk_i (by first | assumption | decide | omega) ?_
  refine chk_i (by first | assumption | decide | omega) ?_
  rw [e4, up_eq, upr_s, ui_s, show 8 * (N 13 + 1 - 1) = 8 * N 13 by omega]
  refine r103_20 hT hm hw hne h13 hf 8 0 _ rfl (Int.le_refl _) (fun b h1 h2 => upr_n h1) ?_ q
  rw [show 14 + 8 * N 13 + 0 = 14 + 8 * N 13 by omega, cpf_0]
  refine ⟨fun k x y => ?_, ?_, fun j x y => ?_⟩
  · rw [upr_s, ui_n (by omega), ui_n (by omega)]; exact hN.1 k x y
  · rw [upr_s, ui_s, ui_s]
  · rw [upr_n (fun h => hne h.symm), ui_n (by omega)]; exact hN.2.2 j x y
/-- back: into a row of registers -/
theorem r104_30 {n : Int} {ni : Int} {l5 : Nat} (hC : CVd E) (hw : AR t aw 64) (hi : AR t am ni) (h4 : 4 ≤ ni) (hr : AR t l5 6) (hne : am ≠ aw) (hne2 : l5 ≠ am) (hV : RVd (E 28 14) N) (hn : 0 ≤ n ∧ n < N 13) (hW : ∀ i, 0 ≤ i → i < 64 → D0 aw i = N (14 + i)) (hR : ∀ k, 0 ≤ k → k < 4 → D0 l5 k = sCell (E 34) N n k) : ∀ (m : Nat) (j : Int) (D : qD), j + m = 4 → 0 ≤ j → (∀ b, b ≠ am → D b = D0 b) → (∀ k, D am k = if 0 ≤ k ∧ k < j then sReg (E 34) N n k (D0 am k) else D0 am k) → (∀ D', (∀ b, b ≠ am → D' b = D0 b) → (∀ k, D' am k = if 0 ≤ k ∧ k < 4 then sReg (E 34) N n k (D0 am k) else D0 am k) → Q 0 t D') → wp S 104 30 [some (qs 28), some (qs 30), some (qr aw), some (qi (N 13 - 1 - n)), some (qr am), some (qr l5), some (qi j)] [] t D Q := by
  have hA1 := hi.k1
  have hW1 := hw.k1
  have hR1 := hr.k1
  have hA2 : (t.1 am).2 = ni := by rw [hi.1]
  have hW2 : (t.1 aw).2 = 64 := by rw [hw.1]
  have hR2 : (t.1 l5).2 = 6 := by rw [hr.1]
  have h13 := hV.1
  intro m
  induction m with
  | zero =>
    intro j D hj h0 hD hk q
    have ej : j = 4 := by omega
    subst ej
    apply lb104_30
    refine chk_i (by first | assumption | decide | omega) ?_
    refine ite_i (fun h => absurd h (by first | decide | omega)) (fun _ => ?_)
    exact q D hD hk
  | succ m ih =>
    intro j D hj h0 hD hk q
    have hrow := hV.2.1 (N 13 - 1 - n) (by omega) (by omega)
    have hsv := hC.2.2.2.1 (40 * N (sAt N n) + 4 * N (sAt N n + 1) + j) (by unfold sAt; omega) (by unfold sAt; omega)
    have e5 : D l5 j = sCell (E 34) N n j := by rw [hD l5 hne2]; exact hR j h0 (by omega)
    have hq : qR (sCell (E 34) N n j) := by unfold sCell; omega
    have hs1 : -1 ≤ sCell (E 34) N n j ∧ sCell (E 34) N n j ≤ 5 := hsv
    have ereg : sReg (E 34) N n j (D0 am j) = if sCell (E 34) N n j = -1 then D0 am j else N (sAt N n + 2 + sCell (E 34) N n j) := rfl
    have step : ∀ D2, (∀ b, b ≠ am → D2 b = D b) → (∀ k, k ≠ j → D2 am k = D am k) → D2 am j = sReg (E 34) N n j (D0 am j) → wp S 104 30 [some (qs 28), some (qs 30), some (qr aw), some (qi (N 13 - 1 - n)), some (qr am), some (qr l5), some (qi (j + 1))] [] t D2 Q := by
      intro D2 g1 g2 g3
      refine ih (j + 1) D2 (by omega) (by omega) (fun b hb => (g1 b hb).trans (hD b hb)) (fun k => ?_) q
      by_cases c : k = j
      · rw [c, g3, if_pos (by omega)]
      · rw [g2 k c, hk k]
        by_cases c2 : 0 ≤ k ∧ k < j
        · rw [if_pos c2, if_pos (by omega)]
        · rw [if_neg c2, if_neg (by omega)]
    apply lb104_30
    rw [e5]
    generalize sCell (E 34) N n j = s at *
    refine chk_i (by first | assumption | decide | omega) ?_
    refine ite_i (fun _ => ?_) (fun h => absurd (by first | rfl | decide | omega) h)
    refine chk_i (by first | assumption | decide | omega) ?_
    refine chk_i (by first | assumption | decide | omega) ?_
    refine chk_i (by first | assumption | decide | omega) ?_
    refine ite_i (fun hl => ?_) fun hl => ?_
    · rw [if_pos (by omega)] at ereg
      refine step D (fun _ _ => rfl) (fun _ _ => rfl) ?_
      rw [hk j, if_neg (by omega), ereg]
    · refine chk_i (by first | assumption | decide | omega) ?_
      refine chk_i (by first | assumption | decide | omega) ?_
      refine chk_i (by first | assumption | decide | omega) ?_
      refine chk_i (by first | assumption | decide | omega) ?_
      refine chk_i (by first | assumption | decide | omega) ?_
      refine chk_i (by first | assumption | decide | omega) ?_
      rw [if_neg (by omega)] at ereg
      refine step _ (fun b hb => by rw [up_eq, upr_n hb]) (fun k hk => by rw [up_eq, upr_s, ui_n hk]) ?_
      rw [up_eq, upr_s, ui_s, hD aw (fun h => hne h.symm), hW _ (by omega) (by omega), ereg, show 14 + (8 * (N 13 - 1 - n) + 2 + s) = sAt N n + 2 + s by unfold sAt; omega]
theorem r104 {n ni : Int} (hT : TB (D 28) (D 30) E) (hC : CVd E) (hw : AR t aw 64) (hi : AR t am ni) (h4 : 4 ≤ ni) (hne : am ≠ aw) (hV : RVd (E 28 14) N) (hn : 0 ≤ n ∧ n < N 13) (hW : ∀ i, 0 ≤ i → i < 64 → D aw i = N (14 + i)) (q : ∀ t' D', KX am am t t' D D' 2 22 → (∀ k, D' am k = if 0 ≤ k ∧ k < 4 then sReg (E 34) N n k (D am k) else D am k) → Q 0 t' D') : wp S 104 0 [some (qs 28), some (qs 30), some (qr aw), some (qi (N 13 - 1 - n)), some (qr am), none, none] [] t D Q := by
  have h13 := hV.1
  have hrow := hV.2.1 (N 13 - 1 - n) (by omega) (by omega)
  have hwl := hw.2.2
  have hil := hi.2.2
  have hw31 := hw.2.1
  have hi31 := hi.2.1
  have hT1 : (nwT t.1 t.2.2.1 (10, 6)) aw = (10, 64) := (if_neg (by omega)).trans hw.1
  have hT2 : ((nwT t.1 t.2.2.1 (10, 6)) aw).1 = 10 := by rw [hT1]
  have hT3 : ((nwT t.1 t.2.2.1 (10, 6)) aw).2 = 64 := by rw [hT1]
  obtain ⟨f, ef⟩ : ∃ f : Nat, N (14 + 8 * (N 13 - 1 - n)) = f := ⟨(N (14 + 8 * (N 13 - 1 - n))).toNat, by omega⟩
  have hB := hT.2.2 f (by omega)
  have e0 : D aw (8 * (N 13 - 1 - n)) = f := by rw [hW _ (by omega) (by omega)]; exact ef
  have e1 : D aw (8 * (N 13 - 1 - n) + 1) = N (14 + 8 * (N 13 - 1 - n) + 1) := by rw [hW _ (by omega) (by omega), show 14 + (8 * (N 13 - 1 - n) + 1) = 14 + 8 * (N 13 - 1 - n) + 1 by omega]
  apply lb104_0
  refine chk_i (by first | assumption | decide | omega) ?_
  refine chk_i (by first | assumption | decide | omega) ?_
  refine chk_i (by first | assumption | decide | omega) ?_
  refine chk_i (by first | assumption | decide | omega) ?_
  rw [upr_n (show aw ≠ t.2.2.1 by omega), e0, e1]
  have hnx : 31 ≤ t.2.2.1 := by omega
  refine r101 (E := E) (f := f) (by rw [upr_n (by omega), upr_n (by omega)]; exact hB) (by omega) (AR.nw hnx) fun t1 D1 k1 g1 _ _ => ?_
  have k0 : KX am am t (nwT t.1 t.2.2.1 (10, 6), nwP t.2.1 t.2.2.1, (t.2.2.1 + 1, t.2.2.2 + 6)) D (upr D t.2.2.1 (fun _ => 0)) 1 6 := KX.nw
  have k2 : KX am am t t1 D D1 2 22 := k0.tr k1 (Or.inr (Or.inr (Nat.le_refl _))) (Or.inr (Or.inr (Nat.le_refl _))) (by omega) (by omega)
  have d1 : ∀ b, b < t.2.2.1 → D1 b = D b := fun b hb => by
    have h := (k1.2 b (Nat.lt_succ_of_lt hb)).2.2 (by omega) (by omega)
    rw [h, upr_n (by omega)]
  refine r104_30 (D0 := D1) (n := n) hC (hw.k k2) (hi.k k2) h4 ((AR.nw hnx).k k1) hne (by omega) hV hn (fun i x y => by rw [d1 aw hwl]; exact hW i x y) (fun k x y => ?_) 4 0 D1 rfl (Int.le_refl _) (fun _ _ => rfl) (fun k => by rw [if_neg (by omega)]) fun D' j1 j2 => q t1 D' ?_ (fun k => by rw [j2 k, d1 am hil])
  · rw [g1 k x y]; unfold sCell sAt; rw [show 14 + 8 * (N 13 - 1 - n) = 14 + 8 * (N 13 - 1 - n) from rfl, ef]
  · exact k2.tr (KX.d (a1 := am) (a2 := am) fun b h1 _ => j1 b h1) (Or.inl rfl) (Or.inl rfl) (by omega) (by omega)
end LC
