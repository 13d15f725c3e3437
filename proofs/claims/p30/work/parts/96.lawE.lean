/-! ## the law looks who catches, throws -/
theorem GK.add {ag : Nat} {D : qD} {K : Int → Int} {v : Int} (h : GK ag D K) (h0 : 0 ≤ K 78) : GK ag (upr D ag (ui (ui (D ag) (3 + K 78) v) 2 (K 78 + 1))) (ui (ui K (79 + K 78) v) 78 (K 78 + 1)) := by
  refine ⟨by rw [upr_s, ui_s, ui_s], fun i x y => ?_⟩
  rw [ui_s] at y
  rw [upr_s, ui_n (show (3 + i : Int) ≠ 2 by omega), ui_n (show (79 + i : Int) ≠ 78 by omega)]
  by_cases c : i = K 78
  · rw [c, ui_s, ui_s]
  · rw [ui_n (by omega), ui_n (by omega)]; exact h.2 i x (by omega)
theorem GK.cg {ag : Nat} {D D' : qD} {K : Int → Int} (h : GK ag D K) (e : ∀ i, 2 ≤ i → D' ag i = D ag i) (h0 : 0 ≤ K 78) : GK ag D' K := ⟨(e 2 (by decide)).trans h.1, fun i x y => (e _ (by omega)).trans (h.2 i x y)⟩
theorem BK.pad {B T : Int → Int} {E : qD} {f : Nat} {p : Int} (h : BK B T E f) (hp : 0 ≤ p ∧ p < E 38 f) : ∃ x : Int, B (7 + 3 * f + p) = x ∧ (0 ≤ x ∧ x + 4 < 64) ∧ ∀ w, 1 ≤ w → w ≤ 4 → T (x + w) = 48 + E 40 (15 * f + 5 * p + w) ∧ 0 ≤ E 40 (15 * f + 5 * p + w) ∧ E 40 (15 * f + 5 * p + w) ≤ 9 := by
  have h0 := oLe (E 39) f (E 37 f).toNat 0 (Nat.zero_le _)
  have e0 : oLen (E 39) f 0 = 0 := rfl
  have hr := h.2.2.2.1
  refine ⟨_, h.2.2.1 p hp.1 hp.2, ⟨by omega, by omega⟩, fun w w1 w4 => ?_⟩
  obtain ⟨-, hw⟩ := h.2.1.2.2.2 p hp.1 hp.2
  obtain ⟨a, b, c, -⟩ := hw w w1 w4
  exact ⟨a, b, c⟩
section LE
variable {S : (Nat → Int32) × Nat} {t : qT} {D : qD} {Q : Int → qT → qD → Prop} {E D0 : qD} {f am aw ag : Nat} {N : Int → Int} {ty : Int}
set_option maxHeartbeats 4000000 in
theorem r106_49 {n adr : Int} (hB : BK (D0 28) (D0 30) E f) (hC : CVd E) (hw : AR t aw 64) (hg : AR t ag 32) (hne : ag ≠ aw) (hVk : ∀ i, 0 ≤ i → i < 9 → D0 29 i = N i ∧ 0 ≤ N i ∧ N i ≤ 4) (hf : N (sAt N n) = f) (hfn : (f : Int) < E 28 14) (hadr : N (sAt N n + 1) = adr) (h9 : 0 ≤ adr ∧ adr ≤ 9) (hda : D0 aw (8 * (N 13 - 1 - n) + 1) = adr) (hn : 0 ≤ n ∧ n < N 13 ∧ N 13 ≤ 8) (ht : 0 ≤ ty ∧ ty ≤ 4) :
    ∀ (k : Nat) (p : Int) (D : qD) (K : Int → Int) (o11 o12 : Option qV), p + k = 3 → 0 ≤ p → (∀ b, b ≠ ag → D b = D0 b) → D ag 0 = -1 → D ag 1 = -1 → GK ag D K → (0 ≤ K 78 ∧ K 78 ≤ 3 * n + p) →
    ((sLp (E 38) (E 40) N n ty k p (K 78)).1 = -1 → ∀ D' o8 o9 o10 o11 o12, (∀ b, b ≠ ag → D' b = D0 b) → D' ag 0 = -1 → D' ag 1 = -1 → GK ag D' (lkP (E 38) (E 40) N n ty k p K) → wp S 106 18 [some (qs 28), some (qs 29), some (qs 30), some (qr am), some (qr aw), some (qi ty), some (qr ag), some (qi (n + 1)), o8, o9, o10, o11, o12] [] t D' Q) →
    (¬ (sLp (E 38) (E 40) N n ty k p (K 78)).1 = -1 → ∀ D', (∀ b, b ≠ ag → D' b = D0 b) → D' ag 0 = n → D' ag 1 = (sLp (E 38) (E 40) N n ty k p (K 78)).1 → GK ag D' (lkP (E 38) (E 40) N n ty k p K) → Q 0 t D') →
    wp S 106 49 [some (qs 28), some (qs 29), some (qs 30), some (qr am), some (qr aw), some (qi ty), some (qr ag), some (qi n), some (qi (8 * (N 13 - 1 - n))), some (qi f), some (qi p), o11, o12] [] t D Q := by
  have hW1 := hw.k1
  have hG1 := hg.k1
  have hW2 : (t.1 aw).2 = 64 := by rw [hw.1]
  have hG2 : (t.1 ag).2 = 32 := by rw [hg.1]
  have hg31 := hg.2.1
  have hpm := hB.2.1.1
  have hf3 := hB.2.2.2.2.2
  intro k
  induction k with
  | zero =>
    intro p D K o11 o12 hpk hp hD h0 h1 hK hKr c1 c2
    have d28 : D 28 = D0 28 := hD 28 (by omega)
    have eB : D 28 (4 + f) = E 38 f := by rw [d28]; exact hB.1.2
    apply lb106_49
    rw [eB]
    refine chk_i (by first | assumption | decide | omega) ?_
    refine chk_i (by first | assumption | decide | omega) ?_
    refine chk_i (by first | assumption | decide | omega) ?_
    refine ite_i (fun h => absurd h (by first | decide | omega)) (fun _ => ?_)
    exact c1 rfl D _ _ _ _ _ hD h0 h1 hK
  | succ k ih =>
    intro p D K o11 o12 hpk hp hD h0 h1 hK hKr c1 c2
    have d28 : D 28 = D0 28 := hD 28 (by omega)
    have d29 : D 29 = D0 29 := hD 29 (by omega)
    have d30 : D 30 = D0 30 := hD 30 (by omega)
    have daw : D aw = D0 aw := hD aw (fun h => hne h.symm)
    have eB : D 28 (4 + f) = E 38 f := by rw [d28]; exact hB.1.2
    have eL : sLp (E 38) (E 40) N n ty (k + 1) p (K 78) = if p < E 38 (N (sAt N n)) then
      (if sDA (E 40) N (N (sAt N n)) p (N (sAt N n + 1)) ty = 1 then (p, K 78)
       else if sDA (E 40) N (N (sAt N n)) p (N (sAt N n + 1)) ty = 2 then sLp (E 38) (E 40) N n ty k (p + 1) (K 78 + 1)
       else sLp (E 38) (E 40) N n ty k (p + 1) (K 78)) else (-1, K 78) := rfl
    have eK : lkP (E 38) (E 40) N n ty (k + 1) p K = if p < E 38 (N (sAt N n)) then
      (if sDA (E 40) N (N (sAt N n)) p (N (sAt N n + 1)) ty = 1 then K
       else if sDA (E 40) N (N (sAt N n)) p (N (sAt N n + 1)) ty = 2 then lkP (E 38) (E 40) N n ty k (p + 1) (ui (ui K (79 + K 78) (10 * N (sAt N n) + p)) 78 (K 78 + 1))
       else lkP (E 38) (E 40) N n ty k (p + 1) K) else K := rfl
    rw [hf, hadr] at eL eK
    apply lb106_49
    rw [eB, daw, hda]
    by_cases cp : p < E 38 f
    · rw [if_pos cp] at eL eK
      obtain ⟨x, ex, hx, hT⟩ := hB.pad ⟨hp, cp⟩
      have t1 := hT 1 (by decide) (by decide)
      have t2 := hT 2 (by decide) (by decide)
      have t3 := hT 3 (by decide) (by decide)
      have hv3 := hC.2.2.2.2.2 f p (by omega) hfn hp cp
      have hk := hVk (3 * f + p) (by omega) (by omega)
      have edA : sDA (E 40) N f p adr ty = if E 40 (15 * f + 5 * p + 1) ≤ adr ∧ adr ≤ E 40 (15 * f + 5 * p + 2) then sDoes (N (3 * f + p)) (E 40 (15 * f + 5 * p + 3)) ty else 0 := rfl
      generalize sDA (E 40) N f p adr ty = sd at eL eK edA
      rw [d28, ex, d29, hk.1, d30, t1.1, t2.1, t3.1, show 48 + E 40 (15 * f + 5 * p + 1) - 48 = E 40 (15 * f + 5 * p + 1) by omega, show 48 + E 40 (15 * f + 5 * p + 2) - 48 = E 40 (15 * f + 5 * p + 2) by omega, show 48 + E 40 (15 * f + 5 * p + 3) - 48 = E 40 (15 * f + 5 * p + 3) by omega]
      refine chk_i (by first | assumption | decide | omega) ?_
      refine chk_i (by first | assumption | decide | omega) ?_
      refine chk_i (by first | assumption | decide | omega) ?_
      refine ite_i (fun _ => ?_) (fun h => absurd (by first | rfl | decide | omega) h)
      refine chk_i (by first | assumption | decide | omega) ?_
      refine chk_i (by first | assumption | decide | omega) ?_
      refine chk_i (by first | assumption | decide | omega) ?_
      refine chk_i (by first | assumption | decide | omega) ?_
      refine chk_i (by first | assumption | decide | omega) ?_
      refine chk_i (by first | assumption | decide | omega) ?_
      have skip : sd ≠ 1 → sd ≠ 2 → ∀ o11 o12, wp S 106 49 [some (qs 28), some (qs 29), some (qs 30), some (qr am), some (qr aw), some (qi ty), some (qr ag), some (qi n), some (qi (8 * (N 13 - 1 - n))), some (qi f), some (qi (p + 1)), o11, o12] [] t D Q := by
        intro s1 s2 o11 o12
        rw [if_neg s1, if_neg s2] at eL eK
        rw [eL, eK] at c1 c2
        exact ih (p + 1) D K _ _ (by omega) (by omega) hD h0 h1 hK ⟨hKr.1, by omega⟩ c1 c2
      refine ite_i (fun hl => ?_) fun hl => ?_
      · rw [if_neg (by omega)] at edA
        exact skip (by omega) (by omega) _ _
      · refine chk_i (by first | assumption | decide | omega) ?_
        refine chk_i (by first | assumption | decide | omega) ?_
        refine chk_i (by first | assumption | decide | omega) ?_
        refine chk_i (by first | assumption | decide | omega) ?_
        refine chk_i (by first | assumption | decide | omega) ?_
        refine ite_i (fun hl2 => ?_) fun hl2 => ?_
        · rw [if_neg (by omega)] at edA
          exact skip (by omega) (by omega) _ _
        · refine chk_i (by first | assumption | decide | omega) ?_
          refine chk_i (by first | assumption | decide | omega) ?_
          rw [if_pos (by omega)] at edA
          refine r105 hk.2 (by omega) (by omega) ?_
          rw [← edA]
          have hdr := sDoes_r (N (3 * f + p)) (E 40 (15 * f + 5 * p + 3)) ty
          rw [← edA] at hdr
          refine chk_i (by omega) ?_
          refine ite_i (fun s2 => ?_) fun s2 => ?_
          · have s1 : ¬ sd = 1 := by omega
            rw [if_neg s1, if_pos s2] at eL eK
            rw [eL, eK] at c1 c2
            have hK0 := hK.1
            refine chk_i hG1 (chk_i (by omega) (chk_i hG1 (chk_i (by omega) (chk_i hG1 (chk_i (by omega) (chk_i hG1 (chk_i (by omega) (chk_i (by omega) (ite_i (fun h => absurd h s1) fun _ => ?_)))))))))
            rw [up_eq D ag, up_eq, upr_s, upr_u, ui_n (show (2 : Int) ≠ 3 + D ag 2 by omega), hK0]
            refine ih (p + 1) _ (ui (ui K (79 + K 78) (10 * f + p)) 78 (K 78 + 1)) _ _ (by omega) (by omega) (fun b hb => by rw [upr_n hb]; exact hD b hb) (by rw [upr_s, ui_n (by omega), ui_n (by omega)]; exact h0) (by rw [upr_s, ui_n (by omega), ui_n (by omega)]; exact h1) (hK.add hKr.1) ⟨by rw [ui_s]; omega, by rw [ui_s]; omega⟩ ?_ ?_
            · rw [ui_s]; exact c1
            · rw [ui_s]; exact c2
          · refine chk_i (by omega) ?_
            refine ite_i (fun s1 => ?_) fun s1 => ?_
            · rw [if_pos s1] at eL eK
              rw [eL, eK] at c2
              refine chk_i hG1 (chk_i (by omega) (chk_i hG1 (chk_i (by omega) ?_)))
              refine c2 (by show ¬ p = -1; omega) _ (fun b hb => by rw [up_eq, upr_n hb, up_eq, upr_n hb]; exact hD b hb) ?_ ?_ (hK.cg (fun i hi => ?_) hKr.1)
              · rw [up_eq, upr_s, ui_n (by decide), up_eq, upr_s, ui_s]
              · rw [up_eq, upr_s, ui_s]
              · rw [up_eq, upr_s, ui_n (by omega), up_eq, upr_s, ui_n (by omega)]
            · exact skip s1 s2 _ _
    · rw [if_neg cp] at eL eK
      rw [eL, eK] at c1
      refine chk_i (by omega) (chk_i (by omega) (chk_i (by omega) (ite_i (fun h => absurd h cp) fun _ => ?_)))
      exact c1 rfl D _ _ _ _ _ hD h0 h1 hK
theorem r106_18 (hT : TB (D0 28) (D0 30) E) (hC : CVd E) (hV : RVd (E 28 14) N) (hm : AR t am 6) (hw : AR t aw 64) (hg : AR t ag 32) (hnw : ag ≠ aw) (hnm : ag ≠ am) (hk9 : ∀ i, 0 ≤ i → i < 9 → D0 29 i = N i) (hN : MW am aw D0 N) (ht : 0 ≤ ty ∧ ty ≤ 4) :
    ∀ (k : Nat) (n : Int) (D : qD) (K : Int → Int) (o8 o9 o10 o11 o12 : Option qV), n + k = 8 → 0 ≤ n → (∀ b, b ≠ ag → D b = D0 b) → D ag 0 = -1 → D ag 1 = -1 → GK ag D K → (0 ≤ K 78 ∧ K 78 ≤ 3 * n) →
    (∀ D', (∀ b, b ≠ ag → D' b = D0 b) → D' ag 0 = (sLc (E 38) (E 40) N ty k n (K 78)).1 → D' ag 1 = (sLc (E 38) (E 40) N ty k n (K 78)).2.1 → GK ag D' (lkF (E 38) (E 40) N ty k n K) → Q 0 t D') →
    wp S 106 18 [some (qs 28), some (qs 29), some (qs 30), some (qr am), some (qr aw), some (qi ty), some (qr ag), some (qi n), o8, o9, o10, o11, o12] [] t D Q := by
  have hM1 := hm.k1
  have hM2 : (t.1 am).2 = 6 := by rw [hm.1]
  have hW1 := hw.k1
  have hW2 : (t.1 aw).2 = 64 := by rw [hw.1]
  have h13 := hV.1
  intro k
  induction k with
  | zero =>
    intro n D K o8 o9 o10 o11 o12 hnk hn hD h0 h1 hK hKr q
    have e4 : D am 4 = N 13 := by rw [hD am (fun h => hnm h.symm)]; exact hN.2.1
    apply lb106_18
    rw [e4]
    refine chk_i (by first | assumption | decide | omega) ?_
    refine chk_i (by first | assumption | decide | omega) ?_
    refine chk_i (by first | assumption | decide | omega) ?_
    refine chk_i (by first | assumption | decide | omega) ?_
    refine ite_i (fun h => absurd h (by first | decide | omega)) (fun _ => ?_)
    exact q D hD h0 h1 hK
  | succ k ih =>
    intro n D K o8 o9 o10 o11 o12 hnk hn hD h0 h1 hK hKr q
    have e4 : D am 4 = N 13 := by rw [hD am (fun h => hnm h.symm)]; exact hN.2.1
    have eL : sLc (E 38) (E 40) N ty (k + 1) n (K 78) = if n < N 13 then (if (sLp (E 38) (E 40) N n ty 3 0 (K 78)).1 = -1 then sLc (E 38) (E 40) N ty k (n + 1) (sLp (E 38) (E 40) N n ty 3 0 (K 78)).2 else (n, sLp (E 38) (E 40) N n ty 3 0 (K 78))) else (-1, (-1, K 78)) := rfl
    have eK : lkF (E 38) (E 40) N ty (k + 1) n K = if n < N 13 then (if (sLp (E 38) (E 40) N n ty 3 0 (K 78)).1 = -1 then lkF (E 38) (E 40) N ty k (n + 1) (lkP (E 38) (E 40) N n ty 3 0 K) else lkP (E 38) (E 40) N n ty 3 0 K) else K := rfl
    apply lb106_18
    rw [e4]
    refine chk_i hM1 (chk_i (by omega) (chk_i (by omega) (chk_i (by omega) (ite_i (fun cn => ?_) fun cn => ?_))))
    · rw [if_pos cn] at eL eK
      have hrow := hV.2.1 (N 13 - 1 - n) (by omega) (by omega)
      obtain ⟨f, ef⟩ : ∃ f : Nat, N (14 + 8 * (N 13 - 1 - n)) = f := ⟨(N (14 + 8 * (N 13 - 1 - n))).toNat, by omega⟩
      have hB := hT.2.2 f (by omega)
      have ew : D aw (8 * (N 13 - 1 - n)) = f := by rw [hD aw (fun h => hnw h.symm), hN.2.2 _ (by omega) (by omega)]; exact ef
      have hp := lkP_78 (pm := E 38) (pd := E 40) (N := N) (n := n) (ty := ty) 3 0 K hKr.1
      rw [ew]
      refine chk_i hM1 (chk_i (by omega) (chk_i hW1 (chk_i (by omega) ?_)))
      refine r106_49 (adr := N (sAt N n + 1)) hB hC hw hg hnw (fun i x y => ⟨hk9 i x y, hV.2.2.1 i x y⟩) ef (by omega) rfl hrow.2.2 (by rw [hN.2.2 _ (by omega) (by omega)]; unfold sAt; rw [show 14 + (8 * (N 13 - 1 - n) + 1) = 14 + 8 * (N 13 - 1 - n) + 1 by omega]) ⟨hn, cn, h13.2⟩ ht 3 0 D K _ _ rfl (Int.le_refl _) hD h0 h1 hK ⟨hKr.1, by omega⟩ (fun c1 D' o8 o9 o10 o11 o12 g1 g2 g3 g4 => ?_) (fun c1 D' g1 g2 g3 g4 => ?_)
      · rw [if_pos c1] at eL eK
        rw [eL, eK, ← hp.1] at q
        exact ih (n + 1) D' _ _ _ _ _ _ (by omega) (by omega) g1 g2 g3 g4 ⟨by omega, by omega⟩ q
      · rw [if_neg c1] at eL eK
        rw [eL, eK] at q
        exact q D' g1 g2 g3 g4
    · rw [if_neg cn] at eL eK
      rw [eL, eK] at q
      exact q D hD h0 h1 hK
/-- who catches -/
theorem r106 (hT : TB (D 28) (D 30) E) (hC : CVd E) (hV : RVd (E 28 14) N) (hm : AR t am 6) (hw : AR t aw 64) (hg : AR t ag 32) (hnw : ag ≠ aw) (hnm : ag ≠ am) (hk9 : ∀ i, 0 ≤ i → i < 9 → D 29 i = N i) (hN : MW am aw D N) (ht : 0 ≤ ty ∧ ty ≤ 4) (q : ∀ D', (∀ b, b ≠ ag → D' b = D b) → D' ag 0 = (sCat (E 38) (E 40) N ty).1 → D' ag 1 = (sCat (E 38) (E 40) N ty).2.1 → D' ag 2 = (sCat (E 38) (E 40) N ty).2.2 → GK ag D' (lkF (E 38) (E 40) N ty 8 0 (ui N 78 0)) → Q 0 t D') : wp S 106 0 [some (qs 28), some (qs 29), some (qs 30), some (qr am), some (qr aw), some (qi ty), some (qr ag), none, none, none, none, none, none] [] t D Q := by
  have hG1 := hg.k1
  have hG2 : (t.1 ag).2 = 32 := by rw [hg.1]
  have e78 := lkF_78 (pm := E 38) (pd := E 40) (N := N) (ty := ty) 8 0 (ui N 78 0) (by rw [ui_s]; decide)
  rw [ui_s] at e78
  apply lb106_0
  refine chk_i (by first | assumption | decide | omega) ?_
  refine chk_i (by first | assumption | decide | omega) ?_
  refine chk_i (by first | assumption | decide | omega) ?_
  refine chk_i (by first | assumption | decide | omega) ?_
  refine chk_i (by first | assumption | decide | omega) ?_
  refine chk_i (by first | assumption | decide | omega) ?_
  rw [up_eq, up_eq D, up_eq, upr_s, upr_u, upr_s, upr_u]
  refine r106_18 (D0 := D) (K := ui N 78 0) hT hC hV hm hw hg hnw hnm hk9 hN ht 8 0 _ _ _ _ _ _ rfl (Int.le_refl _) (fun b hb => upr_n hb) ?_ ?_ ?_ (by rw [ui_s]; decide) ?_
  · rw [upr_s, ui_n (by decide), ui_n (by decide), ui_s]
  · rw [upr_s, ui_n (by decide), ui_s]
  · exact ⟨by rw [upr_s, ui_s, ui_s], fun i x y => by rw [ui_s] at y; omega⟩
  · rw [ui_s]
    exact fun D' g1 g2 g3 g4 => q D' g1 g2 g3 (g4.1.trans e78) g4
/-! ### thrown -/
theorem r107_3 {c cp : Int} {D0 : qD} {a1 a2 : Nat} (hC : CVd E) (hc : 0 ≤ c ∧ c ≤ 7) (hcp : 0 ≤ cp) (hnw : ag ≠ aw) (hnm : ag ≠ am) (hne : am ≠ aw) :
    ∀ (m : Nat) (j : Int) (t : qT) (D : qD) (M : Int → Int), TB (D 28) (D 30) E → AR t am 6 → AR t aw 64 → AR t ag 32 → j + m = c → 0 ≤ j → RVd (E 28 14) M → m < M 13 → M 78 + 3 * m ≤ 21 → cp < E 38 (M (sAt M m)) → D ag 0 = c → D ag 1 = cp → MW am aw D M →
    (∀ t' D', KX am aw t t' D D' (2 * m) (22 * m) → MW am aw D' (sEnd (E 40) ty cp (sUnw (E 34) (E 38) (E 40) ty m M)) → Q 0 t' D') →
    wp S 107 3 [some (qs 28), some (qs 30), some (qr am), some (qr aw), some (qr ag), some (qi j)] [] t D Q := by
  intro m
  induction m with
  | zero =>
    intro j t D M hT hm hw hg hj h0 hV hlt h78 hpl hg0 hg1 hM q
    have hM1 := hm.k1
    have hM2 : (t.1 am).2 = 6 := by rw [hm.1]
    have hW1 := hw.k1
    have hW2 : (t.1 aw).2 = 64 := by rw [hw.1]
    have hG1 := hg.k1
    have hG2 : (t.1 ag).2 = 32 := by rw [hg.1]
    have h13 := hV.1
    have hw31 := hw.2.1
    have ha := sAt_r hV (Int.le_refl 0) (by omega)
    have hpl : cp < E 38 (M (sAt M 0)) := hpl
    have e4 : D am 4 = M 13 := hM.2.1
    obtain ⟨f, ef⟩ : ∃ f : Nat, M (sAt M 0) = f := ⟨(M (sAt M 0)).toNat, by omega⟩
    have hB := hT.2.2 f (by omega)
    have hpm := hB.2.1.1
    have hf3 := hB.2.2.2.2.2
    have eat : sAt M 0 = 14 + 8 * (M 13 - 1) := by unfold sAt; omega
    have ew : D aw (8 * (M 13 - 1)) = f := by rw [hM.2.2 _ (by omega) (by omega), ← eat]; exact ef
    rw [ef] at hpl
    obtain ⟨x, ex, hx, hTx⟩ := hB.pad ⟨hcp, hpl⟩
    have t4 := hTx 4 (by decide) (by decide)
    have hv3 := hC.2.2.2.2.2 f cp (by omega) (by omega) hcp hpl
    apply lb107_3
    rw [hg0, e4, ew, hg1, ex, t4.1, show 48 + E 40 (15 * f + 5 * cp + 4) - 48 = E 40 (15 * f + 5 * cp + 4) by omega]
    refine chk_i (by first | assumption | decide | omega) ?_
    refine chk_i (by first | assumption | decide | omega) ?_
    refine chk_i (by first | assumption | decide | omega) ?_
    refine chk_i (by first | assumption | decide | omega) ?_
    refine ite_i (fun h => absurd h (by first | decide | omega)) (fun _ => ?_)
    refine chk_i (by first | assumption | decide | omega) ?_
    refine chk_i (by first | assumption | decide | omega) ?_
    refine chk_i (by first | assumption | decide | omega) ?_
    refine chk_i (by first | assumption | decide | omega) ?_
    refine chk_i (by first | assumption | decide | omega) ?_
    refine chk_i (by first | assumption | decide | omega) ?_
    refine chk_i (by first | assumption | decide | omega) ?_
    refine chk_i (by first | assumption | decide | omega) ?_
    refine chk_i (by first | assumption | decide | omega) ?_
    refine chk_i (by first | assumption | decide | omega) ?_
    refine q t _ ((KX.d fun b h1 h2 => by rw [up_eq, upr_n h2]).w (by omega) (by omega)) ?_
    have hf := sFin_r (ty := ty) (bef := cp) (pd := E 40) hC.1.2 (by omega) 3 0 M (Int.le_refl _) hV (by omega) (by omega)
    have := hM.ui (i := 8 * (M 13 - 1) + 1) (v := E 40 (15 * f + 5 * cp + 4)) hne ⟨by omega, by omega⟩
    refine this.cg rfl rfl fun i x y => ?_
    show sEnd (E 40) ty cp M i = _
    unfold sEnd
    rw [ef, eat, show 14 + (8 * (M 13 - 1) + 1) = 14 + 8 * (M 13 - 1) + 1 by omega]
    by_cases ci : i = 14 + 8 * (M 13 - 1) + 1
    · rw [ci, ui_s, ui_s]
    · rw [ui_n ci, ui_n ci]; exact hf.2.1 i y
  | succ m ih =>
    intro j t D M hT hm hw hg hj h0 hV hlt h78 hpl hg0 hg1 hM q
    have hM1 := hm.k1
    have hM2 : (t.1 am).2 = 6 := by rw [hm.1]
    have hW1 := hw.k1
    have hG1 := hg.k1
    have hG2 : (t.1 ag).2 = 32 := by rw [hg.1]
    have h13 := hV.1
    have hw31 := hw.2.1
    have hm31 := hm.2.1
    have hg31 := hg.2.1
    have h4 := hV.2.2.2.1
    have e4 : D am 4 = M 13 := hM.2.1
    have hu := sUn1_r (ty := ty) hC hV (by omega) (by omega)
    have ha := sAt_r hV (Int.le_refl 0) (by omega)
    have hf := sFin_r (ty := ty) (bef := E 38 (M (sAt M 0))) (pd := E 40) hC.1.2 (hC.2.1 _ ha.2.1.1 ha.2.1.2).2.2.2 3 0 M (Int.le_refl _) hV (by omega) (by omega)
    apply lb107_3
    rw [hg0, e4, up_eq, upr_s, ui_s]
    refine chk_i (by first | assumption | decide | omega) ?_
    refine chk_i (by first | assumption | decide | omega) ?_
    refine chk_i (by first | assumption | decide | omega) ?_
    refine chk_i (by first | assumption | decide | omega) ?_
    refine ite_i (fun _ => ?_) (fun h => absurd (by first | rfl | decide | omega) h)
    refine chk_i (by first | assumption | decide | omega) ?_
    refine chk_i (by first | assumption | decide | omega) ?_
    refine chk_i (by first | assumption | decide | omega) ?_
    refine chk_i (by first | assumption | decide | omega) ?_
    refine chk_i (by first | assumption | decide | omega) ?_
    refine chk_i (by first | assumption | decide | omega) ?_
    rw [show M 13 - 1 = M 13 - 1 - 0 by omega]
    refine r104 (N := M) (n := 0) (E := E) (ni := 6) (by rw [upr_n (by omega), upr_n (by omega)]; exact hT) hC hw hm (by decide) hne hV ⟨Int.le_refl _, by omega⟩ (fun i x y => by rw [upr_n (fun h => hne h.symm)]; exact hM.2.2 i x y) fun t1 D1 k1 g1 => ?_
    have d1 : ∀ b, b < t.2.2.1 → b ≠ am → D1 b = D b := fun b hb hn => by rw [(k1.2 b hb).2.2 hn hn, upr_n hn]
    have hml := hm.2.2
    have hwl := hw.2.2
    have hgl := hg.2.2
    have k0 : KX am aw t t1 D D1 2 22 := (KX.d (D := D) (a1 := am) (a2 := aw) (t := t) (D' := upr D am (ui (D am) 4 (M 13 - 1 - 0))) fun b h1 _ => upr_n h1).tr k1 (Or.inl rfl) (Or.inl rfl) (by omega) (by omega)
    have hb28 := d1 28 (by omega) (by omega)
    have hb30 := d1 30 (by omega) (by omega)
    have hMb : MW am aw D1 (sBack (E 34) (sFin (E 40) ty (E 38 (M (sAt M 0))) 3 0 M)) := by
      have eb : ∀ i, i < 78 → sBack (E 34) (sFin (E 40) ty (E 38 (M (sAt M 0))) 3 0 M) i = sBack (E 34) M i := by
        intro i hi
        have h3 : ∀ j, j < 78 → sFin (E 40) ty (E 38 (M (sAt M 0))) 3 0 M j = M j := hf.2.1
        have es : sAt (sFin (E 40) ty (E 38 (M (sAt M 0))) 3 0 M) 0 = sAt M 0 := sAt_d (by rw [h3 13 (by decide)])
        unfold sBack
        rw [h3 13 (by decide)]
        by_cases c13 : i = 13
        · rw [c13, ui_s, ui_s]
        · rw [ui_n c13, ui_n c13]
          by_cases c9 : 9 ≤ i ∧ i < 13
          · rw [cpf_y c9, cpf_y c9, h3 i hi]
            refine sReg_eq es (h3 _ (by omega)) (h3 _ (by omega)) fun _ => h3 _ ?_
            have := hC.2.2.2.1 (40 * M (sAt M 0) + 4 * M (sAt M 0 + 1) + (i - 9)) (by omega) (by omega)
            omega
          · rw [cpf_n c9, cpf_n c9]; exact h3 i hi
      refine ⟨fun k x y => ?_, ?_, fun i x y => ?_⟩
      · rw [eb _ (by omega), g1 k, if_pos ⟨x, y⟩, upr_s, ui_n (by omega)]
        unfold sBack
        rw [ui_n (by omega), cpf_y (by omega), hM.1 k x y, show 9 + k - 9 = k by omega]
      · rw [eb _ (by omega), g1 4, if_neg (by decide), upr_s, ui_s]
        unfold sBack
        rw [ui_s]; omega
      · rw [eb _ (by omega), d1 aw hwl (fun h => hne h.symm)]
        unfold sBack
        rw [ui_n (by omega), cpf_n (by omega)]; exact hM.2.2 i x y
    refine ih (j + 1) t1 D1 _ (by rw [hb28, hb30]; exact hT) (hm.k k1) (hw.k k1) (hg.k k1) (by omega) (by omega) hu.2.1 (by rw [hu.2.2.1]; omega) (by have := hu.2.2.2.2.1; omega) ?_ (by rw [d1 ag hgl hnm]; exact hg0) (by rw [d1 ag hgl hnm]; exact hg1) hMb fun t2 D2 k2 g2 => q t2 D2 (k0.tr k2 (Or.inl rfl) (Or.inr (Or.inl rfl)) (by omega) (by omega)) g2
    have es : sAt (sBack (E 34) (sFin (E 40) ty (E 38 (M (sAt M 0))) 3 0 M)) m = sAt M ((m + 1 : Nat) : Int) := by unfold sAt at *; rw [hu.2.2.1]; omega
    have hat : 14 ≤ sAt M ((m + 1 : Nat) : Int) ∧ sAt M ((m + 1 : Nat) : Int) < 78 := by unfold sAt; omega
    rw [es, hu.2.2.2.1 _ hat.1 hat.2]; exact hpl
theorem r107 {c cp : Int} (hT : TB (D 28) (D 30) E) (hC : CVd E) (hV : RVd (E 28 14) N) (hm : AR t am 6) (hw : AR t aw 64) (hg : AR t ag 32) (hnw : ag ≠ aw) (hnm : ag ≠ am) (hne : am ≠ aw) (hN : MW am aw D N) (hc : 0 ≤ c ∧ c < N 13) (hcp : 0 ≤ cp ∧ cp < E 38 (N (sAt N c))) (hg0 : D ag 0 = c) (hg1 : D ag 1 = cp) (q : ∀ t' D', KX am aw t t' D D' 14 154 → MW am aw D' (sRaise (E 34) (E 38) (E 40) N ty c cp) → Q 0 t' D') : wp S 107 0 [some (qs 28), some (qs 30), some (qr am), some (qr aw), some (qr ag), none] [] t D Q := by
  have h13 := hV.1
  have hat : 14 ≤ sAt N c ∧ sAt N c < 78 := by unfold sAt; omega
  have es : sAt (ui N 78 0) ((c.toNat : Nat) : Int) = sAt N c := by unfold sAt; rw [ui_n (by omega)]; omega
  refine lb107_0 (r107_3 (D0 := D) (a1 := am) (a2 := aw) hC ⟨hc.1, by omega⟩ hcp.1 hnw hnm hne c.toNat 0 t D (ui N 78 0) hT hm hw hg (by omega) (Int.le_refl _) hV.u78 (by rw [ui_n (by omega)]; omega) (by rw [ui_s]; omega) ?_ hg0 hg1 (hN.cg rfl rfl fun i x y => ui_n (by omega)) fun t' D' k g => q t' D' (k.w (by omega) (by omega)) g)
  rw [es, ui_n (by omega)]; exact hcp.2
end LE
