/-! ## the class: what is done to a machine of its own block -/
def ML (t : qT) (a : Nat) : Prop := t.2.1 a 1 = a + 1 ∧ t.2.1 a 2 = a + 2 ∧ t.2.1 a 3 = a + 3 ∧ t.2.1 a 4 = a + 4 ∧ t.2.1 a 5 = a + 5 ∧ t.2.1 a 6 = a + 6
def CB (t : qT) (k a : Nat) : Prop := k < a ∧ t.2.1 k 1 < a ∧ t.2.1 k 2 < a ∧ t.2.1 k 3 < a ∧ t.2.1 k 4 < a ∧ t.2.1 k 5 < a
def FR (a : Nat) (D D' : qD) : Prop := ∀ b, ¬ (a ≤ b ∧ b ≤ a + 6) → D' b = D b
theorem FR.rfl' {a : Nat} {D : qD} : FR a D D := fun _ _ => rfl
theorem FR.trans {a : Nat} {D E F : qD} (h : FR a D E) (k : FR a E F) : FR a D F := fun b hb => (k b hb).trans (h b hb)
theorem FR.up {a b : Nat} {D : qD} {i v : Int} (h : a ≤ b ∧ b ≤ a + 6) : FR a D (up D b i v) := fun c hc => by
  rw [up_eq]; exact upr_n (by rintro rfl; exact hc h)
theorem CR.fr {t : qT} {D D' G : qD} {k a : Nat} (h : CR t D k G) (hb : CB t k a) (hf : FR a D D') : CR t D' k G := by
  obtain ⟨b0, b1, b2, b3, b4, b5⟩ := hb
  unfold CR
  rw [hf k (by omega), hf _ (show ¬ (a ≤ t.2.1 k 1 ∧ _) by omega), hf _ (show ¬ (a ≤ t.2.1 k 2 ∧ _) by omega), hf _ (show ¬ (a ≤ t.2.1 k 3 ∧ _) by omega), hf _ (show ¬ (a ≤ t.2.1 k 4 ∧ _) by omega), hf _ (show ¬ (a ≤ t.2.1 k 5 ∧ _) by omega)]
  exact h
section KB
variable {S : (Nat → Int32) × Nat} {t : qT} {D G : qD} {Q : Int → qT → qD → Prop} {a k : Nat} {N : Int → Int}
theorem MR.w_kd {i v : Int} (h : MR t D a N) (hl : ML t a) (hi : 0 ≤ i ∧ i < 9) : MR t (up D (t.2.1 a 1) i v) a (ui N i v) := by
  obtain ⟨l1, l2, l3, l4, l5, l6⟩ := hl
  obtain ⟨h1, h2, h3, h4, h5, h6, h7, h8⟩ := h
  refine ⟨fun x p q => ?_, fun x p q => ?_, ?_, fun x p q => ?_, fun x p q => ?_, fun x y p q r s => ?_, ?_, fun x p q => ?_⟩
  · have := h1 x p q; unfold up ui; (repeat' split) <;> first | omega | assumption
  · have := h2 x p q; unfold up ui; (repeat' split) <;> first | omega | assumption
  · have := h3; unfold up ui; (repeat' split) <;> first | omega | assumption
  · have := h4 x p q; unfold up ui; (repeat' split) <;> first | omega | assumption
  · have := h5 x p q; unfold up ui; (repeat' split) <;> first | omega | assumption
  · have := h6 x y p q r s; unfold up ui; (repeat' split) <;> first | omega | assumption
  · have := h7; unfold up ui; (repeat' split) <;> first | omega | assumption
  · have := h8 x p q; unfold up ui; (repeat' split) <;> first | omega | assumption
theorem MR.w_rg {i v : Int} (h : MR t D a N) (hl : ML t a) (hi : 0 ≤ i ∧ i < 4) : MR t (up D (t.2.1 a 2) i v) a (ui N (9 + i) v) := by
  obtain ⟨l1, l2, l3, l4, l5, l6⟩ := hl
  obtain ⟨h1, h2, h3, h4, h5, h6, h7, h8⟩ := h
  refine ⟨fun x p q => ?_, fun x p q => ?_, ?_, fun x p q => ?_, fun x p q => ?_, fun x y p q r s => ?_, ?_, fun x p q => ?_⟩
  · have := h1 x p q; unfold up ui; (repeat' split) <;> first | omega | assumption
  · have := h2 x p q; unfold up ui; (repeat' split) <;> first | omega | assumption
  · have := h3; unfold up ui; (repeat' split) <;> first | omega | assumption
  · have := h4 x p q; unfold up ui; (repeat' split) <;> first | omega | assumption
  · have := h5 x p q; unfold up ui; (repeat' split) <;> first | omega | assumption
  · have := h6 x y p q r s; unfold up ui; (repeat' split) <;> first | omega | assumption
  · have := h7; unfold up ui; (repeat' split) <;> first | omega | assumption
  · have := h8 x p q; unfold up ui; (repeat' split) <;> first | omega | assumption
theorem MR.w_fr {v : Int} (h : MR t D a N) (hl : ML t a) : MR t (up D a 7 v) a (ui N 13 v) := by
  obtain ⟨l1, l2, l3, l4, l5, l6⟩ := hl
  obtain ⟨h1, h2, h3, h4, h5, h6, h7, h8⟩ := h
  refine ⟨fun x p q => ?_, fun x p q => ?_, ?_, fun x p q => ?_, fun x p q => ?_, fun x y p q r s => ?_, ?_, fun x p q => ?_⟩
  · have := h1 x p q; unfold up ui; (repeat' split) <;> first | omega | assumption
  · have := h2 x p q; unfold up ui; (repeat' split) <;> first | omega | assumption
  · have := h3; unfold up ui; (repeat' split) <;> first | omega | assumption
  · have := h4 x p q; unfold up ui; (repeat' split) <;> first | omega | assumption
  · have := h5 x p q; unfold up ui; (repeat' split) <;> first | omega | assumption
  · have := h6 x y p q r s; unfold up ui; (repeat' split) <;> first | omega | assumption
  · have := h7; unfold up ui; (repeat' split) <;> first | omega | assumption
  · have := h8 x p q; unfold up ui; (repeat' split) <;> first | omega | assumption
theorem MR.w_fn {l v : Int} (h : MR t D a N) (hl : ML t a) (hi : 0 ≤ l ∧ l < 8) : MR t (up D (t.2.1 a 3) l v) a (ui N (14 + 8 * l) v) := by
  obtain ⟨l1, l2, l3, l4, l5, l6⟩ := hl
  obtain ⟨h1, h2, h3, h4, h5, h6, h7, h8⟩ := h
  refine ⟨fun x p q => ?_, fun x p q => ?_, ?_, fun x p q => ?_, fun x p q => ?_, fun x y p q r s => ?_, ?_, fun x p q => ?_⟩
  · have := h1 x p q; unfold up ui; (repeat' split) <;> first | omega | assumption
  · have := h2 x p q; unfold up ui; (repeat' split) <;> first | omega | assumption
  · have := h3; unfold up ui; (repeat' split) <;> first | omega | assumption
  · have := h4 x p q; unfold up ui; (repeat' split) <;> first | omega | assumption
  · have := h5 x p q; unfold up ui; (repeat' split) <;> first | omega | assumption
  · have := h6 x y p q r s; unfold up ui; (repeat' split) <;> first | omega | assumption
  · have := h7; unfold up ui; (repeat' split) <;> first | omega | assumption
  · have := h8 x p q; unfold up ui; (repeat' split) <;> first | omega | assumption
theorem MR.w_ad {l v : Int} (h : MR t D a N) (hl : ML t a) (hi : 0 ≤ l ∧ l < 8) : MR t (up D (t.2.1 a 4) l v) a (ui N (14 + 8 * l + 1) v) := by
  obtain ⟨l1, l2, l3, l4, l5, l6⟩ := hl
  obtain ⟨h1, h2, h3, h4, h5, h6, h7, h8⟩ := h
  refine ⟨fun x p q => ?_, fun x p q => ?_, ?_, fun x p q => ?_, fun x p q => ?_, fun x y p q r s => ?_, ?_, fun x p q => ?_⟩
  · have := h1 x p q; unfold up ui; (repeat' split) <;> first | omega | assumption
  · have := h2 x p q; unfold up ui; (repeat' split) <;> first | omega | assumption
  · have := h3; unfold up ui; (repeat' split) <;> first | omega | assumption
  · have := h4 x p q; unfold up ui; (repeat' split) <;> first | omega | assumption
  · have := h5 x p q; unfold up ui; (repeat' split) <;> first | omega | assumption
  · have := h6 x y p q r s; unfold up ui; (repeat' split) <;> first | omega | assumption
  · have := h7; unfold up ui; (repeat' split) <;> first | omega | assumption
  · have := h8 x p q; unfold up ui; (repeat' split) <;> first | omega | assumption
theorem MR.w_cl {l c v : Int} (h : MR t D a N) (hl : ML t a) (hi : 0 ≤ l ∧ l < 8) (hc : 0 ≤ c ∧ c < 6) : MR t (up D (t.2.1 a 5) (l * 6 + c) v) a (ui N (14 + 8 * l + 2 + c) v) := by
  obtain ⟨l1, l2, l3, l4, l5, l6⟩ := hl
  obtain ⟨h1, h2, h3, h4, h5, h6, h7, h8⟩ := h
  refine ⟨fun x p q => ?_, fun x p q => ?_, ?_, fun x p q => ?_, fun x p q => ?_, fun x y p q r s => ?_, ?_, fun x p q => ?_⟩
  · have := h1 x p q; unfold up ui; (repeat' split) <;> first | omega | assumption
  · have := h2 x p q; unfold up ui; (repeat' split) <;> first | omega | assumption
  · have := h3; unfold up ui; (repeat' split) <;> first | omega | assumption
  · have := h4 x p q; unfold up ui; (repeat' split) <;> first | omega | assumption
  · have := h5 x p q; unfold up ui; (repeat' split) <;> first | omega | assumption
  · have := h6 x y p q r s; unfold up ui; (repeat' split) <;> first | omega | assumption
  · have := h7; unfold up ui; (repeat' split) <;> first | omega | assumption
  · have := h8 x p q; unfold up ui; (repeat' split) <;> first | omega | assumption
theorem MR.w_fc {v : Int} (h : MR t D a N) (hl : ML t a) : MR t (up D a 8 v) a (ui N 78 v) := by
  obtain ⟨l1, l2, l3, l4, l5, l6⟩ := hl
  obtain ⟨h1, h2, h3, h4, h5, h6, h7, h8⟩ := h
  refine ⟨fun x p q => ?_, fun x p q => ?_, ?_, fun x p q => ?_, fun x p q => ?_, fun x y p q r s => ?_, ?_, fun x p q => ?_⟩
  · have := h1 x p q; unfold up ui; (repeat' split) <;> first | omega | assumption
  · have := h2 x p q; unfold up ui; (repeat' split) <;> first | omega | assumption
  · have := h3; unfold up ui; (repeat' split) <;> first | omega | assumption
  · have := h4 x p q; unfold up ui; (repeat' split) <;> first | omega | assumption
  · have := h5 x p q; unfold up ui; (repeat' split) <;> first | omega | assumption
  · have := h6 x y p q r s; unfold up ui; (repeat' split) <;> first | omega | assumption
  · have := h7; unfold up ui; (repeat' split) <;> first | omega | assumption
  · have := h8 x p q; unfold up ui; (repeat' split) <;> first | omega | assumption
theorem MR.w_dn {i v : Int} (h : MR t D a N) (hl : ML t a) (hi : 0 ≤ i ∧ i < 24) : MR t (up D (t.2.1 a 6) i v) a (ui N (79 + i) v) := by
  obtain ⟨l1, l2, l3, l4, l5, l6⟩ := hl
  obtain ⟨h1, h2, h3, h4, h5, h6, h7, h8⟩ := h
  refine ⟨fun x p q => ?_, fun x p q => ?_, ?_, fun x p q => ?_, fun x p q => ?_, fun x y p q r s => ?_, ?_, fun x p q => ?_⟩
  · have := h1 x p q; unfold up ui; (repeat' split) <;> first | omega | assumption
  · have := h2 x p q; unfold up ui; (repeat' split) <;> first | omega | assumption
  · have := h3; unfold up ui; (repeat' split) <;> first | omega | assumption
  · have := h4 x p q; unfold up ui; (repeat' split) <;> first | omega | assumption
  · have := h5 x p q; unfold up ui; (repeat' split) <;> first | omega | assumption
  · have := h6 x y p q r s; unfold up ui; (repeat' split) <;> first | omega | assumption
  · have := h7; unfold up ui; (repeat' split) <;> first | omega | assumption
  · have := h8 x p q; unfold up ui; (repeat' split) <;> first | omega | assumption
theorem svN_r (op : Int → Int) (f : Int) : ∀ n : Nat, 0 ≤ svN op f n ∧ svN op f n ≤ n := by
  intro n
  induction n with
  | zero => exact ⟨Int.le_refl _, Int.le_refl _⟩
  | succ n ih =>
    show 0 ≤ svN op f n + _ ∧ svN op f n + _ ≤ _
    split <;> omega
theorem svN_m (op : Int → Int) (f : Int) : ∀ (m n : Nat), n ≤ m → svN op f n ≤ svN op f m := by
  intro m
  induction m with
  | zero => intro n h; obtain rfl : n = 0 := by omega
            exact Int.le_refl _
  | succ m ih =>
    intro n h
    by_cases c : n = m + 1
    · rw [c]; exact Int.le_refl _
    · have := ih n (by omega)
      show _ ≤ svN op f m + _
      split <;> omega
theorem adN_r (hC : CVd G) {f : Int} (hf : 0 ≤ f ∧ f < G 28 14) : ∀ n : Nat, n ≤ G 37 f → 0 ≤ adN (G 39) f n ∧ adN (G 39) f n ≤ 9 * n := by
  intro n
  induction n with
  | zero => intro _; exact ⟨Int.le_refl _, Int.le_refl _⟩
  | succ n ih =>
    intro h
    have h1 := ih (by omega)
    have h2 := hC.2.2.1 f n hf.1 hf.2 (by omega) (by omega)
    show 0 ≤ adN (G 39) f n + _ ∧ adN (G 39) f n + _ ≤ _
    split <;> omega
theorem c30_16 {f l at_ : Int} (hO : MO t a) (hL : ML t a) (hB : CB t (t.2.1 a 0) a) (hC : CVd G) (hf : 0 ≤ f ∧ f < G 28 14) (hl : 0 ≤ l ∧ l < 8) (ha : at_ = 14 + 8 * l) :
    ∀ (m n : Nat) (D : qD) (N : Int → Int), n + m = 8 → n ≤ G 37 f → CR t D (t.2.1 a 0) G → MR t D a N → qR (N (at_ + 1)) →
    (∀ D', MR t D' a (sSv (G 37) (G 39) f at_ m n (adN (G 39) f n) N) → FR a D D' → Q 0 t D') →
    wp S 28 16 [some (qr a), some (qi l), some (qi f), some (qi (svN (G 39) f n))] [] t D Q := by
  have h1 := hC.1
  have h2 := hC.2.1 f hf.1 hf.2
  obtain ⟨o0, oc, o1, o2, o3, o4, o5, o6⟩ := id hO
  have hL' := hL
  obtain ⟨l1, l2, l3, l4, l5, l6⟩ := hL
  intro m
  induction m with
  | zero =>
    intro n D N hm hn hK hM hN q
    have e := hK.2.2.2.2.2.1 f hf.1 hf.2
    have hsv := svN_r (G 39) f n
    refine b30_16 (chk_i o0.1 (chk_i oc.1.1 (c7 oc (by omega) ?_)))
    rw [e, show (G 37 f).toNat = n by omega]
    exact chk_i (by omega) (chk_i (by omega) (ite_i (fun c => absurd c (by omega)) fun c => q D hM FR.rfl'))
  | succ m ih =>
    intro n D N hm hn hK hM hN q
    have e := hK.2.2.2.2.2.1 f hf.1 hf.2
    have hsv := svN_r (G 39) f n
    by_cases hlt : (n : Int) < G 37 f
    · have hop := hC.2.2.1 f n hf.1 hf.2 (by omega) hlt
      have had := adN_r hC hf n hn
      have ev : svN (G 39) f (n + 1) = svN (G 39) f n + if G 39 (24 * f + 3 * n) = 115 then 1 else 0 := rfl
      have ea : adN (G 39) f (n + 1) = adN (G 39) f n + if G 39 (24 * f + 3 * n) = 43 then G 39 (24 * f + 3 * n + 1) else 0 := rfl
      have es : sSv (G 37) (G 39) f at_ (m + 1) n (adN (G 39) f n) N = if (n : Int) < G 37 f then
        (if G 39 (24 * f + 3 * n) = 43 then sSv (G 37) (G 39) f at_ m (n + 1) (adN (G 39) f n + G 39 (24 * f + 3 * n + 1)) N
         else if G 39 (24 * f + 3 * n) = 115 ∧ adN (G 39) f n = N (at_ + 1) then sSv (G 37) (G 39) f at_ m (n + 1) (adN (G 39) f n) (ui N (at_ + 2 + G 39 (24 * f + 3 * n + 2)) (N (9 + G 39 (24 * f + 3 * n + 1))))
         else sSv (G 37) (G 39) f at_ m (n + 1) (adN (G 39) f n) N) else N := rfl
      rw [if_pos hlt] at es
      have ih' := ih (n + 1)
      rw [ev, ea, show ((n + 1 : Nat) : Int) = (n : Int) + 1 from rfl] at ih'
      by_cases c115 : G 39 (24 * f + 3 * n) = 115
      · rw [if_pos c115, if_neg (by omega), Int.add_zero] at ih'
        rw [if_neg (by omega)] at es
        have hs := hK.2.2.2.2.2.2 f n hf.1 hf.2 hlt c115
        have hmono := svN_m (G 39) f (G 37 f).toNat (n + 1) (by omega)
        rw [ev, if_pos c115] at hmono
        have hsv2 := svN_r (G 39) f (G 37 f).toNat
        have hM4 := hM.2.2.2.2.1 l hl.1 hl.2
        rw [← ha] at hM4
        refine b30_16 (chk_i o0.1 (chk_i oc.1.1 (c7 oc (by omega) ?_)))
        rw [e]
        refine chk_i (by omega) (chk_i (by omega) (ite_i (fun c => chk_i o0.1 (chk_i oc.1.1 (c8 oc (by omega) ?_))) fun c => absurd c (by omega)))
        rw [hs.1, hM4]
        refine chk_i o0.1 (chk_i o4.1 (chk_i (by omega) (chk_i (by omega) (chk_i (by omega) (ite_i (fun c => ?_) fun c => ?_)))))
        · rw [if_pos ⟨c115, c⟩] at es
          refine chk_i o0.1 (chk_i o0.1 (chk_i oc.1.1 (c10 oc (by omega) ?_)))
          rw [hs.2.2]
          refine chk_i o0.1 (chk_i o0.1 (chk_i oc.1.1 (c9 oc (by omega) ?_)))
          rw [hs.2.1, hM.2.1 _ (by omega) (by omega)]
          refine chk_i o2.1 (chk_i (by omega) (chk_i o5.1 (chk_i (by omega) ?_)))
          have hfr : FR a D (up D (t.2.1 a 5) (l * 6 + G 39 (24 * f + 3 * n + 2)) (N (9 + G 39 (24 * f + 3 * n + 1)))) := FR.up (by omega)
          refine ih' _ (ui N (14 + 8 * l + 2 + G 39 (24 * f + 3 * n + 2)) (N (9 + G 39 (24 * f + 3 * n + 1)))) (by omega) (by omega) (hK.fr hB hfr) (hM.w_cl hL' hl (by omega)) ?_ fun D' h3 h4 => ?_
          · rw [ui_n (by omega)]; exact hN
          · rw [← ha] at h3
            refine q D' ?_ (hfr.trans h4)
            rw [es]; exact h3
        · rw [if_neg (fun z => c z.2)] at es
          refine ih' _ N (by omega) (by omega) hK hM hN fun D' h3 h4 => ?_
          refine q D' ?_ h4
          rw [es]; exact h3
      · rw [if_neg c115, Int.add_zero] at ih'
        refine ih' _ N (by omega) (by omega) hK hM hN fun D' h3 h4 => ?_
        refine q D' ?_ h4
        rw [es]
        by_cases c43 : G 39 (24 * f + 3 * n) = 43
        · rw [if_pos c43] at h3 ⊢; exact h3
        · rw [if_neg c43, Int.add_zero] at h3
          rw [if_neg c43, if_neg (fun z => c115 z.1)]; exact h3
    · refine b30_16 (chk_i o0.1 (chk_i oc.1.1 (c7 oc (by omega) ?_)))
      have es : sSv (G 37) (G 39) f at_ (m + 1) n (adN (G 39) f n) N = N := if_neg hlt
      rw [e, show (G 37 f).toNat = n by omega]
      refine chk_i (by omega) (chk_i (by omega) (ite_i (fun c => absurd c (by omega)) fun c => q D ?_ FR.rfl'))
      rw [es]; exact hM
theorem c30 (hO : MO t a) (hL : ML t a) (hB : CB t (t.2.1 a 0) a) (hC : CVd G) (hK : CR t D (t.2.1 a 0) G) (hM : MR t D a N) (h13 : 1 ≤ N 13 ∧ N 13 ≤ 8) (hf : 0 ≤ N (sAt N 0) ∧ N (sAt N 0) < G 28 14) (hN : qR (N (sAt N 0 + 1)))
    (q : ∀ D', MR t D' a (sSv (G 37) (G 39) (N (sAt N 0)) (sAt N 0) 8 0 0 N) → FR a D D' → Q 0 t D') : wp S 28 0 [some (qr a), none, none, none] [] t D Q := by
  obtain ⟨o0, oc, o1, o2, o3, o4, o5, o6⟩ := id hO
  have e7 := hM.2.2.1
  have e3 := hM.2.2.2.1 (N 13 - 1) (by omega) (by omega)
  have ha : sAt N 0 = 14 + 8 * (N 13 - 1) := by unfold sAt; omega
  rw [← ha] at e3
  have h2 := (hC.2.1 _ hf.1 hf.2).1
  refine b30_0 (chk_i o0.1 (chk_i o0.1 (chk_i o3.1 (chk_i (by omega) ?_))))
  rw [e7, e3]
  exact c30_16 hO hL hB hC hf (by omega) ha 8 0 D N rfl h2 hK hM hN q
theorem c28_32 {f : Int} (hO : MO t a) (hL : ML t a) (hB : CB t (t.2.1 a 0) a) (hC : CVd G) (hf : 0 ≤ f ∧ f < G 28 14) {b : Int} (hb : 0 ≤ b ∧ b < 8) :
    ∀ (m : Nat) (j : Int) (D : qD) (N : Int → Int), j + m = 6 → 0 ≤ j → N 13 = b → N (14 + 8 * b) = f → N (14 + 8 * b + 1) = 0 → CR t D (t.2.1 a 0) G → MR t D a N →
    (∀ D' , MR t D' a (sSv (G 37) (G 39) f (14 + 8 * b) 8 0 0 (ui (cpf N (fun _ => 0) (14 + 8 * b + 2 + j) (14 + 8 * b + 8)) 13 (b + 1))) → FR a D D' → Q 0 t D') →
    wp S 26 32 [some (qr a), some (qi f), some (qi j)] [] t D Q := by
  obtain ⟨o0, oc, o1, o2, o3, o4, o5, o6⟩ := id hO
  obtain ⟨l1, l2, l3, l4, l5, l6⟩ := id hL
  intro m
  induction m with
  | zero =>
    intro j D N hm hj h13 hNf hN0 hK hM q
    obtain rfl : j = 6 := by omega
    have e7 := hM.2.2.1
    have hfr : FR a D (up D a 7 (D a 7 + 1)) := FR.up (by omega)
    refine b28_32 (chk_i (by omega) (ite_i (fun c => absurd c (by omega)) fun c => chk_i o0.1 (chk_i o0.1 (chk_i o0.1 ?_))))
    have hM' := hM.w_fr (v := D a 7 + 1) hL
    rw [e7, h13] at hM'
    have ea : sAt (ui N 13 (b + 1)) 0 = 14 + 8 * b := by unfold sAt; rw [ui_s]; omega
    refine c30 (N := ui N 13 (b + 1)) hO hL hB hC (hK.fr hB hfr) (by rw [e7, h13]; exact hM') (by rw [ui_s]; omega) ?_ ?_ fun D' h1 h2 => ?_
    · rw [ea, ui_n (by omega), hNf]; exact hf
    · rw [ea, ui_n (by omega), hN0]; omega
    · rw [ea, ui_n (by omega), hNf] at h1
      rw [show (14 + 8 * b + 2 + 6 : Int) = 14 + 8 * b + 8 by omega, cpf_0] at q
      exact q D' h1 (hfr.trans h2)
  | succ m ih =>
    intro j D N hm hj h13 hNf hN0 hK hM q
    have e7 := hM.2.2.1
    refine b28_32 (chk_i (by omega) (ite_i (fun c => chk_i o0.1 (chk_i o0.1 (chk_i o5.1 (chk_i (by omega) ?_)))) fun c => absurd c (by omega)))
    rw [e7, h13]
    have hfr : FR a D (up D (t.2.1 a 5) (b * 6 + j) 0) := FR.up (by omega)
    refine ih (j + 1) _ (ui N (14 + 8 * b + 2 + j) 0) (by omega) (by omega) (by rw [ui_n (by omega)]; exact h13) (by rw [ui_n (by omega)]; exact hNf) (by rw [ui_n (by omega)]; exact hN0) (hK.fr hB hfr) (hM.w_cl hL hb (by omega)) fun D' h1 h2 => ?_
    refine q D' ?_ (hfr.trans h2)
    have e : cpf (ui N (14 + 8 * b + 2 + j) 0) (fun _ => 0) (14 + 8 * b + 2 + (j + 1)) (14 + 8 * b + 8) = cpf N (fun _ => 0) (14 + 8 * b + 2 + j) (14 + 8 * b + 8) := by
      funext i
      unfold cpf ui
      dsimp only
      (repeat' split) <;> first | rfl | omega
    rw [e] at h1
    exact h1
theorem c28 {f : Int} (hO : MO t a) (hL : ML t a) (hB : CB t (t.2.1 a 0) a) (hC : CVd G) (hK : CR t D (t.2.1 a 0) G) (hM : MR t D a N) (h13 : 0 ≤ N 13 ∧ N 13 ≤ 8) (hf : 0 ≤ f ∧ f < G 28 14)
    (q : ∀ D', MR t D' a (if N 13 < 8 then sCall (G 37) (G 39) N f else N) → FR a D D' → Q 0 t D') : wp S 26 0 [some (qr a), some (qi f), none] [] t D Q := by
  obtain ⟨o0, oc, o1, o2, o3, o4, o5, o6⟩ := id hO
  obtain ⟨l1, l2, l3, l4, l5, l6⟩ := id hL
  have e7 := hM.2.2.1
  refine b28_0 (chk_i o0.1 (chk_i (by omega) (ite_i (fun c => ?_) fun c => ?_)))
  · have e8 : up D (t.2.1 a 3) (D a 7) f a 7 = D a 7 := by rw [up_eq, upr_n (by omega)]
    rw [e8]
    rw [e7] at c ⊢
    rw [if_pos c] at q
    refine chk_i o0.1 (chk_i o0.1 (chk_i o3.1 (chk_i (by omega) (chk_i o0.1 (chk_i o0.1 (chk_i o4.1 (chk_i (by omega) ?_)))))))
    have f1 : FR a D (up D (t.2.1 a 3) (N 13) f) := FR.up (by omega)
    have f2 : FR a (up D (t.2.1 a 3) (N 13) f) (up (up D (t.2.1 a 3) (N 13) f) (t.2.1 a 4) (N 13) 0) := FR.up (by omega)
    have f3 := f1.trans f2
    have hM1 := (hM.w_fn (v := f) hL (l := N 13) (by omega)).w_ad (v := 0) hL (l := N 13) (by omega)
    refine c28_32 hO hL hB hC hf (b := N 13) (by omega) 6 0 _ _ rfl (Int.le_refl _) ?_ ?_ ?_ (hK.fr hB f3) hM1 fun D' h1 h2 => ?_
    · rw [ui_n (by omega), ui_n (by omega)]
    · rw [ui_n (by omega), ui_s]
    · rw [ui_s]
    · refine q D' ?_ (f3.trans h2)
      unfold sCall
      have e : ui (cpf (ui (ui N (14 + 8 * N 13) f) (14 + 8 * N 13 + 1) 0) (fun _ => 0) (14 + 8 * N 13 + 2 + 0) (14 + 8 * N 13 + 8)) 13 (N 13 + 1) = ui (sClr (ui N 13 (N 13 + 1)) (14 + 8 * N 13)) (14 + 8 * N 13) f := by
        funext i
        unfold sClr cpf ui
        dsimp only
        (repeat' split) <;> first | rfl | omega
      rw [e] at h1
      exact h1
  · rw [e7] at c
    rw [if_neg c] at q
    exact q D hM FR.rfl'
theorem c29 (hO : MO t a) (hL : ML t a) (hB : CB t (t.2.1 a 0) a) (hC : CVd G) (hK : CR t D (t.2.1 a 0) G) (hM : MR t D a N) (hV : RVd (G 28 14) N) (h13 : 1 ≤ N 13)
    (q : ∀ D', MR t D' a (sStep (G 37) (G 39) N) → FR a D D' → Q 0 t D') : wp S 27 0 [some (qr a)] [] t D Q := by
  obtain ⟨o0, oc, o1, o2, o3, o4, o5, o6⟩ := id hO
  obtain ⟨l1, l2, l3, l4, l5, l6⟩ := id hL
  have e7 := hM.2.2.1
  have h8 := hV.1
  have ha := sAt_r hV (Int.le_refl 0) (by omega)
  have es : sAt N 0 = 14 + 8 * (N 13 - 1) := by unfold sAt; omega
  have e4 := hM.2.2.2.2.1 (N 13 - 1) (by omega) (by omega)
  rw [← es] at e4
  refine b29_0 (chk_i o0.1 (chk_i (by omega) (ite_i (fun c => ?_) fun c => absurd c (by omega))))
  rw [e7, e4]
  have f1 : FR a D (up D (t.2.1 a 4) (N 13 - 1) (N (sAt N 0 + 1) + 1)) := FR.up (by omega)
  refine chk_i o0.1 (chk_i o0.1 (chk_i o4.1 (chk_i (by omega) (chk_i o4.1 (chk_i (by omega) (chk_i o0.1 ?_))))))
  have hM1 := hM.w_ad (v := N (sAt N 0 + 1) + 1) hL (l := N 13 - 1) (by omega)
  rw [← es] at hM1
  have e13 : ui N (sAt N 0 + 1) (N (sAt N 0 + 1) + 1) 13 = N 13 := ui_n (by omega)
  have ea : sAt (ui N (sAt N 0 + 1) (N (sAt N 0 + 1) + 1)) 0 = sAt N 0 := sAt_d (by rw [e13])
  refine c30 hO hL hB hC (hK.fr hB f1) hM1 (by rw [e13]; omega) ?_ ?_ fun D' h1 h2 => ?_
  · rw [ea, ui_n (by omega)]; exact ha.2.1
  · rw [ea, ui_s]; omega
  · rw [ea, ui_n (by omega)] at h1
    exact q D' h1 (f1.trans h2)
end KB
