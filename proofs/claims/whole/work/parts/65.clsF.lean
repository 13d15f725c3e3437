/-! ## the class: count, digest -/
def XQ (t : qT) (D G : qD) : Prop := XM t D G ∧ SRl D 7 8 9 10 (G 44) (G 28 31) ∧ PGr D G ∧ D 3 2 = G 28 27 ∧ D 0 7 = G 28 15
section KF
variable {S : (Nat → Int32) × Nat} {t : qT} {D G : qD} {Q : Int → qT → qD → Prop} {k : Nat}
theorem c12 (hO : CO t k) (hK : CR t D k G) (hC : CVd G) (q : Q (sPads (G 38) (G 28 14) 3 0 0) t D) : wp S 12 0 [some (qr k), none, none] [] t D Q := by
  have h1 := hC.1
  obtain ⟨h0, p1, p2, p3, p4, p5⟩ := hO
  have lp : ∀ (n : Nat) (f s : Int), f + n = 3 → 0 ≤ f → Q (sPads (G 38) (G 28 14) n f s) t D → wp S 12 4 [some (qr k), some (qi s), some (qi f)] [] t D Q := by
    intro n
    induction n with
    | zero =>
      intro f s hn hf q
      refine b12_4 (chk_i h0.1 (chk_i (by omega) ?_))
      rw [hK.1]
      exact chk_i (by omega) (ite_i (fun c => absurd c (by omega)) fun _ => q)
    | succ n ih =>
      intro f s hn hf q
      unfold sPads at q
      refine b12_4 (chk_i h0.1 (chk_i (by omega) ?_))
      rw [hK.1]
      refine chk_i (by omega) (ite_i (fun c => chk_i h0.1 (chk_i p5.1 (chk_i (by omega) ?_))) fun c => ?_)
      · rw [if_pos c] at q
        rw [hK.2.2.2.1 f hf c]
        exact ih (f + 1) _ (by omega) (by omega) q
      · rwa [if_neg c] at q
  exact b12_0 (lp 3 0 0 rfl (Int.le_refl _) q)
theorem c14 {f b : Int} (hO : CO t k) (hK : CR t D k G) (hC : CVd G) (hf : 0 ≤ f ∧ f < G 28 14) (hb : 0 ≤ b ∧ b < 10) (q : Q (if sAny (G 34) (10 * f + b) 4 0 = true then 1 else 0) t D) : wp S 14 0 [some (qr k), some (qi f), some (qi b), none] [] t D Q := by
  have h1 := hC.1
  have lp : ∀ (n : Nat) (r : Int), r + n = 4 → 0 ≤ r → Q (if sAny (G 34) (10 * f + b) n r = true then 1 else 0) t D → wp S 14 2 [some (qr k), some (qi f), some (qi b), some (qi r)] [] t D Q := by
    intro n
    induction n with
    | zero =>
      intro r hn hr q
      exact b14_2 (chk_i (by omega) (ite_i (fun c => absurd c (by omega)) fun _ => q))
    | succ n ih =>
      intro r hn hr q
      have e := hK.2.1 f b r hf.1 hf.2 hb.1 hb.2 hr (by omega)
      have r1 := hC.2.2.2.1 (40 * f + 4 * b + r) (by omega) (by omega)
      unfold sAny at q
      rw [show 4 * (10 * f + b) + r = 40 * f + 4 * b + r by omega] at q
      refine b14_2 (chk_i (by omega) (ite_i (fun c => chk_i hO.1.1 (c1 hO (by omega) ?_)) fun c => absurd c (by omega)))
      rw [e]
      refine chk_i (by omega) (ite_i (fun c2 => ?_) fun c2 => ?_)
      · rw [if_pos c2] at q; exact ih (r + 1) (by omega) (by omega) q
      · rw [if_neg c2, if_pos rfl] at q; exact q
  exact b14_0 (lp 4 0 rfl (Int.le_refl _) q)
theorem c13 (hO : CO t k) (hK : CR t D k G) (hC : CVd G) (q : Q (sSvd (G 34) (G 28 14) 30 0 0) t D) : wp S 13 0 [some (qr k), none, none, none] [] t D Q := by
  have h1 := hC.1
  have inn : ∀ (f : Int), (0 ≤ f ∧ f < G 28 14) → ∀ (n : Nat) (b s : Int), b + n = 10 → 0 ≤ b →
      (∀ s' o, Q (sSvd (G 34) (G 28 14) (20 - 10 * f).toNat (10 * f + 10) s') t D → wp S 13 4 [some (qr k), some (qi s'), some (qi (f + 1)), o] [] t D Q) →
      Q (sSvd (G 34) (G 28 14) (30 - 10 * f - b).toNat (10 * f + b) s) t D → wp S 13 14 [some (qr k), some (qi s), some (qi f), some (qi b)] [] t D Q := by
    intro f hf n
    induction n with
    | zero =>
      intro b s hn hb q1 q2
      obtain rfl : b = 10 := by omega
      rw [show 30 - 10 * f - 10 = 20 - 10 * f by omega] at q2
      exact b13_14 (chk_i (by omega) (ite_i (fun c => absurd c (by omega)) fun _ => q1 _ _ q2))
    | succ n ih =>
      intro b s hn hb q1 q2
      rw [show (30 - 10 * f - b).toNat = (30 - 10 * f - (b + 1)).toNat + 1 by omega] at q2
      unfold sSvd at q2
      rw [if_pos (by omega), show 10 * f + b + 1 = 10 * f + (b + 1) by omega] at q2
      refine b13_14 (chk_i (by omega) (ite_i (fun c => chk_i hO.1.1 (c14 hO hK hC hf ⟨hb, by omega⟩ (tf1 (fun c2 => ?_) fun c2 => ?_))) fun c => absurd c (by omega)))
      · rw [if_pos c2] at q2; exact ih (b + 1) _ (by omega) (by omega) q1 q2
      · rw [if_neg c2, Int.add_zero] at q2; exact ih (b + 1) _ (by omega) (by omega) q1 q2
  have out : ∀ (n : Nat) (f s : Int) (o : Option qV), f + n = G 28 14 → 0 ≤ f → Q (sSvd (G 34) (G 28 14) (30 - 10 * f).toNat (10 * f) s) t D → wp S 13 4 [some (qr k), some (qi s), some (qi f), o] [] t D Q := by
    intro n
    induction n with
    | zero =>
      intro f s o hn hf q
      refine b13_4 (chk_i hO.1.1 (chk_i (by omega) ?_))
      rw [hK.1]
      refine chk_i (by omega) (ite_i (fun c => absurd c (by omega)) fun _ => ?_)
      cases h : (30 - 10 * f).toNat with
      | zero => rw [h] at q; exact q
      | succ m => rw [h] at q; unfold sSvd at q; rwa [if_neg (by omega)] at q
    | succ n ih =>
      intro f s o hn hf q
      refine b13_4 (chk_i hO.1.1 (chk_i (by omega) ?_))
      rw [hK.1]
      refine chk_i (by omega) (ite_i (fun c => inn f ⟨hf, c⟩ 10 0 s rfl (Int.le_refl _) (fun s' o' q' => ih (f + 1) s' o' (by omega) (by omega) ?_) ?_) fun c => absurd (by omega) c)
      · rw [show 30 - 10 * (f + 1) = 20 - 10 * f by omega, show 10 * (f + 1) = 10 * f + 10 by omega]; exact q'
      · rw [Int.sub_zero, Int.add_zero]; exact q
  exact b13_0 (out (G 28 14).toNat 0 0 _ (by omega) (Int.le_refl _) q)
theorem x93 {w : Int} (hX : XQ t D G) (hG : RVs G) (hw : qR w) (q : Q (vCount G w) t D) : wp S 93 0 [some (qs 0), some (qi w)] [] t D Q := by
  obtain ⟨hM, hs, hp, h3, h0⟩ := hX
  obtain ⟨o0, oc, -⟩ := id hM.1
  unfold vCount at q
  refine b93_0 (c102 hw (by omega) (tf1 (fun c => chk_i hw (ite_i (fun c0 => chk_i o0.1 (chk_i oc.1.1 ?_)) fun c0 => ite_i (fun c1 => chk_i o0.1 (chk_i oc.1.1 (c12 oc hM.2.2 hG.1 ?_))) fun c1 => ite_i (fun c2 => chk_i o0.1 ?_) fun c2 => ite_i (fun c3 => ?_) fun c3 => ite_i (fun c4 => chk_i o0.1 (chk_i oc.1.1 (c13 oc hM.2.2 hG.1 ?_))) fun c4 => ite_i (fun c5 => ?_) fun c5 => ite_i (fun c6 => ?_) fun c6 => ?_)) fun c => ?_))
  · rw [if_pos c0] at q; rw [hM.2.2.1]; exact q
  · rwa [if_neg c0, if_pos c1] at q
  · rw [if_neg c0, if_neg c1, if_pos c2] at q; rw [hM.2.1.2.2.1]; exact q
  · rw [if_neg c0, if_neg c1, if_neg c2, if_pos c3] at q; rw [h3]; exact q
  · rwa [if_neg c0, if_neg c1, if_neg c2, if_neg c3, if_pos c4] at q
  · rw [if_neg c0, if_neg c1, if_neg c2, if_neg c3, if_neg c4, if_pos c5] at q; rw [hs.1]; exact q
  · rw [if_neg c0, if_neg c1, if_neg c2, if_neg c3, if_neg c4, if_neg c5, if_pos c6] at q; rw [hp.1]; exact q
  · rw [if_neg c0, if_neg c1, if_neg c2, if_neg c3, if_neg c4, if_neg c5, if_neg c6, if_pos (by omega)] at q; rw [h0]; exact q
  · rwa [if_neg (by omega), if_neg (by omega), if_neg (by omega), if_neg (by omega), if_neg (by omega), if_neg (by omega), if_neg (by omega), if_neg (by omega)] at q
/-! ranges of what is told, for the digest -/
theorem vCount_R (h : RVs G) {w : Int} : qR (vCount G w) := by
  have sv : ∀ (m : Nat) (i s : Int), s ≤ sSvd (G 34) (G 28 14) m i s ∧ sSvd (G 34) (G 28 14) m i s ≤ s + m := by
    intro m
    induction m with
    | zero => intro i s; exact ⟨Int.le_refl _, by show s ≤ s + (0 : Nat); omega⟩
    | succ m ih =>
      intro i s
      unfold sSvd
      split
      · have := ih (i + 1) (s + if sAny (G 34) i 4 0 = true then 1 else 0)
        have e : (0 : Int) ≤ (if sAny (G 34) i 4 0 = true then 1 else 0) ∧ (if sAny (G 34) i 4 0 = true then (1 : Int) else 0) ≤ 1 := by split <;> omega
        omega
      · omega
  have pv : ∀ (m : Nat) (f s : Int), 0 ≤ f → s ≤ sPads (G 38) (G 28 14) m f s ∧ sPads (G 38) (G 28 14) m f s ≤ s + 3 * m := by
    intro m
    induction m with
    | zero => intro f s _; exact ⟨Int.le_refl _, by show s ≤ s + 3 * (0 : Nat); omega⟩
    | succ m ih =>
      intro f s hf
      unfold sPads
      split
      · rename_i c
        have h2 := h.1.2.1 f hf c
        have := ih (f + 1) (s + G 38 f) (by omega)
        omega
      · omega
  have a1 := h.1.1
  have a2 := h.2.1.1
  have a3 := h.2.2.1
  have a4 := h.2.2.2.1
  have a5 := h.2.2.2.2.1
  have a6 := h.2.2.2.2.2.1
  have a7 := sv 30 0 0
  have a8 := pv 3 0 0 (Int.le_refl _)
  unfold vCount
  (repeat' split) <;> omega
theorem vTellFrame_R (h : RVs G) {n w : Int} (hn : 0 ≤ n ∧ n < G 42 13) (hw : 0 ≤ w ∧ w ≤ 11) : qR (vTellFrame G n w) := by
  have h13 := h.2.1.1
  have hcl : ∀ (r : Int), 0 ≤ r ∧ r < 4 → ∀ (m : Nat) (i v : Int), 0 ≤ i → i + m ≤ G 42 13 → qR v → qR (sCl (G 34) (G 42) r m i v) := by
    intro r hr m
    induction m with
    | zero => intro i v _ _ hv; exact hv
    | succ m ih =>
      intro i v h0 h1 hv
      unfold sCl
      refine ih _ _ (by omega) (by omega) ?_
      have ha := sAt_r h.2.1 h0 (by omega)
      have h1 := h.1.1
      unfold sReg
      split
      · exact hv
      · have := h.1.2.2.2.1 (40 * G 42 (sAt (G 42) i) + 4 * G 42 (sAt (G 42) i + 1) + r) (by omega) (by omega)
        unfold sCell at *
        exact h.2.1.2.2.2.2 _ (by omega) (by omega)
  have ha := sAt_r h.2.1 hn.1 hn.2
  unfold vTellFrame
  split
  · exact h.2.1.2.2.2.2 _ (by omega) (by omega)
  · exact hcl (w - 8) (by omega) _ _ _ (Int.le_refl _) (by omega) (h.2.1.2.2.2.2 _ (by omega) (by omega))
theorem sLo_R : ∀ (m : Nat) (ty b : Int), qR b → qR (sLo G m ty b) := by
  intro m
  induction m with
  | zero => intro ty b hb; exact hb
  | succ m ih => intro ty b hb; unfold sLo; refine ih _ _ ?_; split; exact qor_R; exact hb
theorem c97 {h v : Int} (q : Q (31 * h + v) t D) : wp S 97 0 [some (ql h), none, some (ql v), none] [] t D Q := b97_0 q
theorem x95 {f h : Int} (hX : XQ t D G) (hG : RVs G) (hf : 0 ≤ f ∧ f < G 28 14) (q : Q (hPads G f 3 0 (hs (fun i => vTellRow G f (i / 6) (i % 6)) 60 0 h)) t D) : wp S 95 0 [some (qs 0), some (ql h), none, some (qi f), none, none, none, none] [] t D Q := by
  obtain ⟨o0, oc, -⟩ := id hX.1.1
  have h1 := hG.1.1
  have h2 := hG.1.2.1 f hf.1 hf.2
  have eR : ∀ b w, 0 ≤ b → b < 10 → 0 ≤ w → w < 6 → vRow G f b w = vTellRow G f b w := fun b w a1 a2 a3 a4 => by
    unfold vRow; rw [if_neg (fun z => z hf), if_neg (by omega), if_neg (by omega)]
  have eP : ∀ p w, 0 ≤ p → p < G 38 f → vPad G f p w = vTellPad G f p w := fun p w a1 a2 => by
    unfold vPad; rw [if_neg (fun z => z ⟨hf.1, hf.2, a1, a2⟩)]
  have p7 : ∀ (p : Int), (0 ≤ p ∧ p < G 38 f) → ∀ (n : Nat) (w x : Int), w + n = 7 → 0 ≤ w → (∀ y o, y = hs (vTellPad G f p) n w x → wp S 95 55 [some (qs 0), some (ql h), none, some (qi f), some (ql y), none, some (qi (p + 1)), o] [] t D Q) →
      wp S 95 74 [some (qs 0), some (ql h), none, some (qi f), some (ql x), none, some (qi p), some (qi w)] [] t D Q := by
    intro p hp n
    induction n with
    | zero =>
      intro w x hn hw q
      exact b95_74 (chk_i (by omega) (ite_i (fun c => absurd c (by omega)) fun _ => q x _ rfl))
    | succ n ih =>
      intro w x hn hw q
      refine b95_74 (chk_i (by omega) (ite_i (fun c => x73 hX.1 hX.2.1 hG (by omega) (by omega) (by omega) ?_) fun c => absurd c (by omega)))
      rw [eP p w hp.1 hp.2]
      exact chk_i (vTellPad_R hG.1 hG.2.1 hf hp) (c97 (ih (w + 1) _ (by omega) (by omega) q))
  have ps : ∀ (n : Nat) (p x : Int) (o7 : Option qV), p + n = 3 → 0 ≤ p → Q (hPads G f n p x) t D → wp S 95 55 [some (qs 0), some (ql h), none, some (qi f), some (ql x), none, some (qi p), o7] [] t D Q := by
    intro n
    induction n with
    | zero =>
      intro p x o7 hn hp q
      refine b95_55 (chk_i o0.1 (chk_i oc.1.1 (c3 oc (by omega) ?_)))
      rw [hX.1.2.2.2.2.2.1 f hf.1 hf.2]
      exact chk_i (by omega) (chk_i (by omega) (ite_i (fun c => absurd c (by omega)) fun _ => q))
    | succ n ih =>
      intro p x o7 hn hp q
      unfold hPads at q
      refine b95_55 (chk_i o0.1 (chk_i oc.1.1 (c3 oc (by omega) ?_)))
      rw [hX.1.2.2.2.2.2.1 f hf.1 hf.2]
      refine chk_i (by omega) (chk_i (by omega) (ite_i (fun c => ?_) fun c => ?_))
      · rw [if_pos c] at q
        exact p7 p ⟨hp, c⟩ 7 0 x rfl (Int.le_refl _) fun y o hy => ih (p + 1) y o (by omega) (by omega) (by rw [hy]; exact q)
      · rwa [if_neg c] at q
  have rw_ : ∀ (b : Int), (0 ≤ b ∧ b < 10) → ∀ (n : Nat) (w x : Int), w + n = 6 → 0 ≤ w →
      (∀ y o, Q (hPads G f 3 0 (hs (fun i => vTellRow G f (i / 6) (i % 6)) (54 - 6 * b).toNat (6 * b + 6) y)) t D → wp S 95 6 [some (qs 0), some (ql h), none, some (qi f), some (ql y), none, some (qi (b + 1)), o] [] t D Q) →
      Q (hPads G f 3 0 (hs (fun i => vTellRow G f (i / 6) (i % 6)) (60 - 6 * b - w).toNat (6 * b + w) x)) t D → wp S 95 16 [some (qs 0), some (ql h), none, some (qi f), some (ql x), none, some (qi b), some (qi w)] [] t D Q := by
    intro b hb n
    induction n with
    | zero =>
      intro w x hn hw q1 q2
      obtain rfl : w = 6 := by omega
      rw [show 60 - 6 * b - 6 = 54 - 6 * b by omega] at q2
      exact b95_16 (chk_i (by omega) (ite_i (fun c => absurd c (by omega)) fun _ => q1 _ _ q2))
    | succ n ih =>
      intro w x hn hw q1 q2
      rw [show (60 - 6 * b - w).toNat = (60 - 6 * b - (w + 1)).toNat + 1 by omega] at q2
      unfold hs at q2
      rw [show (6 * b + w) / 6 = b by omega, show (6 * b + w) % 6 = w by omega, show 6 * b + w + 1 = 6 * b + (w + 1) by omega] at q2
      refine b95_16 (chk_i (by omega) (ite_i (fun c => x72 hX.1 hG (by omega) (by omega) (by omega) ?_) fun c => absurd c (by omega)))
      rw [eR b w hb.1 hb.2 hw c]
      exact chk_i (vTellRow_R hG.1 hf (by omega) (by omega)) (c97 (ih (w + 1) _ (by omega) (by omega) q1 q2))
  have rs : ∀ (n : Nat) (b x : Int) (o7 : Option qV), b + n = 10 → 0 ≤ b → Q (hPads G f 3 0 (hs (fun i => vTellRow G f (i / 6) (i % 6)) (60 - 6 * b).toNat (6 * b) x)) t D → wp S 95 6 [some (qs 0), some (ql h), none, some (qi f), some (ql x), none, some (qi b), o7] [] t D Q := by
    intro n
    induction n with
    | zero =>
      intro b x o7 hn hb q
      obtain rfl : b = 10 := by omega
      exact b95_6 (chk_i (by omega) (ite_i (fun c => absurd c (by omega)) fun _ => ps 3 0 x _ rfl (Int.le_refl _) q))
    | succ n ih =>
      intro b x o7 hn hb q
      refine b95_6 (chk_i (by omega) (ite_i (fun c => rw_ b ⟨hb, c⟩ 6 0 x rfl (Int.le_refl _) (fun y o q' => ih (b + 1) y o (by omega) (by omega) ?_) ?_) fun c => absurd (by omega) c))
      · rw [show 60 - 6 * (b + 1) = 54 - 6 * b by omega, show 6 * (b + 1) = 6 * b + 6 by omega]; exact q'
      · rw [Int.sub_zero, Int.add_zero]; exact q
  exact b95_0 (rs 10 0 h _ rfl (Int.le_refl _) q)
theorem x96 {h : Int} (hX : XQ t D G) (hG : RVs G) (hnf : ¬ G 28 14 = 0) (q : Q (hTx G h) t D) : wp S 96 0 [some (qs 0), some (ql h), none, none, none, none, none] [] t D Q := by
  have eS : ∀ ty w, 0 ≤ ty → ty < 5 → 0 ≤ w → w < 3 → vSearch G ty w = vSea G ty w := fun ty w a1 a2 a3 a4 => by
    unfold vSearch; rw [if_neg (by omega), if_neg (by omega), if_neg hnf]
  have eL : vLoose G = sLo G 5 0 0 := if_neg hnf
  have inn : ∀ (ty : Int), (0 ≤ ty ∧ ty < 5) → ∀ (n : Nat) (w x : Int), w + n = 3 → 0 ≤ w →
      (∀ y o, Q (31 * hs (fun i => vSea G (i / 3) (i % 3)) (12 - 3 * ty).toNat (3 * ty + 3) y + sLo G 5 0 0) t D → wp S 96 5 [some (qs 0), some (ql h), none, some (ql y), none, some (qi (ty + 1)), o] [] t D Q) →
      Q (31 * hs (fun i => vSea G (i / 3) (i % 3)) (15 - 3 * ty - w).toNat (3 * ty + w) x + sLo G 5 0 0) t D → wp S 96 14 [some (qs 0), some (ql h), none, some (ql x), none, some (qi ty), some (qi w)] [] t D Q := by
    intro ty hty n
    induction n with
    | zero =>
      intro w x hn hw q1 q2
      obtain rfl : w = 3 := by omega
      rw [show 15 - 3 * ty - 3 = 12 - 3 * ty by omega] at q2
      exact b96_14 (chk_i (by omega) (ite_i (fun c => absurd c (by omega)) fun _ => q1 _ _ q2))
    | succ n ih =>
      intro w x hn hw q1 q2
      rw [show (15 - 3 * ty - w).toNat = (15 - 3 * ty - (w + 1)).toNat + 1 by omega] at q2
      unfold hs at q2
      rw [show (3 * ty + w) / 3 = ty by omega, show (3 * ty + w) % 3 = w by omega, show 3 * ty + w + 1 = 3 * ty + (w + 1) by omega] at q2
      refine b96_14 (chk_i (by omega) (ite_i (fun c => x84 hX.1 hG (by omega) (by omega) ?_) fun c => absurd c (by omega)))
      rw [eS ty w hty.1 hty.2 hw c]
      exact chk_i (vSea_R hG.2.1 _ _) (c97 (ih (w + 1) _ (by omega) (by omega) q1 q2))
  have out : ∀ (n : Nat) (ty x : Int) (o6 : Option qV), ty + n = 5 → 0 ≤ ty → Q (31 * hs (fun i => vSea G (i / 3) (i % 3)) (15 - 3 * ty).toNat (3 * ty) x + sLo G 5 0 0) t D → wp S 96 5 [some (qs 0), some (ql h), none, some (ql x), none, some (qi ty), o6] [] t D Q := by
    intro n
    induction n with
    | zero =>
      intro ty x o6 hn h0 q
      obtain rfl : ty = 5 := by omega
      refine b96_5 (chk_i (by omega) (ite_i (fun c => absurd c (by omega)) fun _ => x85 hX.1 hG ?_))
      rw [eL]
      exact chk_i (sLo_R _ _ _ (by omega)) (c97 q)
    | succ n ih =>
      intro ty x o6 hn h0 q
      refine b96_5 (chk_i (by omega) (ite_i (fun c => inn ty ⟨h0, c⟩ 3 0 x rfl (Int.le_refl _) (fun y o q' => ih (ty + 1) y o (by omega) (by omega) ?_) ?_) fun c => absurd (by omega) c))
      · rw [show 15 - 3 * (ty + 1) = 12 - 3 * ty by omega, show 3 * (ty + 1) = 3 * ty + 3 by omega]; exact q'
      · rw [Int.sub_zero, Int.add_zero]; exact q
  exact b96_0 (out 5 0 h _ rfl (Int.le_refl _) q)
theorem x94 (hX : XQ t D G) (hG : RVs G) (q : Q (vDigest G) t D) : wp S 94 0 [some (qs 0), none, none, none, none] [] t D Q := by
  obtain ⟨o0, oc, -⟩ := id hX.1.1
  have h1 := hG.1.1
  have h13 := hG.2.1.1
  have h78 := hG.2.1.2.2.2.1
  have hl := hG.2.2.2.2.1
  have e7 := hX.1.2.1.2.2.1
  have e8 := hX.1.2.1.2.2.2.2.2.2.1
  have s8 : ∀ (n : Nat) (w x : Int) (o : Option qV), w + n = 8 → 0 ≤ w → Q (hs (vCount G) n w x) t D → wp S 94 183 [some (qs 0), some (ql x), none, some (qi w), o] [] t D Q := by
    intro n
    induction n with
    | zero => intro w x o hn hw q; exact b94_183 (chk_i (by omega) (ite_i (fun c => absurd c (by omega)) fun _ => q))
    | succ n ih =>
      intro w x o hn hw q
      exact b94_183 (chk_i (by omega) (ite_i (fun c => x93 hX hG (by omega) (chk_i (vCount_R hG) (c97 (ih (w + 1) _ o (by omega) (by omega) q)))) fun c => absurd (by omega) c))
  have s7 : ∀ (n : Nat) (i x : Int) (o : Option qV), i + n = G 28 1 → 0 ≤ i → Q (hs (vCount G) 8 0 (hs (G 29) n i x)) t D → wp S 94 150 [some (qs 0), some (ql x), none, some (qi i), o] [] t D Q := by
    intro n
    induction n with
    | zero =>
      intro i x o hn hi q
      refine b94_150 (chk_i (by omega) ?_)
      rw [hX.2.2.1.1]
      exact chk_i (by omega) (ite_i (fun c => absurd c (by omega)) fun _ => s8 8 0 x o rfl (Int.le_refl _) q)
    | succ n ih =>
      intro i x o hn hi q
      have e := hX.2.2.1.2.2 i hi (by omega)
      refine b94_150 (chk_i (by omega) ?_)
      rw [hX.2.2.1.1]
      refine chk_i (by omega) (ite_i (fun c => c41 (by rw [hX.2.2.1.1]; omega) (by rw [hX.2.2.1.1]; omega) ?_) fun c => absurd (by omega) c)
      rw [e.1]
      exact chk_i (by omega) (c97 (ih (i + 1) _ o (by omega) (by omega) q))
  have s6 : ∀ (n : Nat) (i x : Int) (o : Option qV), i + n = G 42 78 → 0 ≤ i → Q (hs (vCount G) 8 0 (hs (G 29) (G 28 1).toNat 0 (hs (fun i => G 42 (79 + i)) n i x))) t D → wp S 94 120 [some (qs 0), some (ql x), none, some (qi i), o] [] t D Q := by
    intro n
    induction n with
    | zero =>
      intro i x o hn hi q
      refine b94_120 (chk_i o0.1 (chk_i (by omega) ?_))
      rw [e8]
      exact chk_i (by omega) (ite_i (fun c => absurd c (by omega)) fun _ => s7 (G 28 1).toNat 0 x o (by omega) (Int.le_refl _) q)
    | succ n ih =>
      intro i x o hn hi q
      have hp := hG.2.1.2.2.2.2 (79 + i) (by omega) (by omega)
      have ef : vFin G i = G 42 (79 + i) := by unfold vFin; rw [if_neg (by omega), if_neg (by omega)]
      refine b94_120 (chk_i o0.1 (chk_i (by omega) ?_))
      rw [e8]
      refine chk_i (by omega) (ite_i (fun c => x86 hX.1 hG (by omega) ?_) fun c => absurd (by omega) c)
      rw [ef]
      exact chk_i (by omega) (c97 (ih (i + 1) _ o (by omega) (by omega) q))
  have s5 : ∀ (x : Int) (o : Option qV), Q (hs (vCount G) 8 0 (hs (G 29) (G 28 1).toNat 0 (hs (fun i => G 42 (79 + i)) (G 42 78).toNat 0 (31 * x + G 42 78)))) t D → wp S 94 120 [some (qs 0), some (ql x), none, some (qi (-1)), o] [] t D Q := by
    intro x o q
    have ef : vFin G (-1) = G 42 78 := by unfold vFin; rw [if_pos rfl]
    refine b94_120 (chk_i o0.1 (chk_i (by omega) ?_))
    rw [e8]
    refine chk_i (by omega) (ite_i (fun c => x86 hX.1 hG (by omega) ?_) fun c => absurd (by omega) c)
    rw [ef]
    exact chk_i (by omega) (c97 (s6 (G 42 78).toNat 0 _ o (by omega) (Int.le_refl _) q))
  have s4 : ∀ (n : Nat) (r x : Int) (o : Option qV), r + n = 4 → 0 ≤ r → (∀ y, y = hs (fun r => G 42 (9 + r)) n r x → Q (hs (vCount G) 8 0 (hs (G 29) (G 28 1).toNat 0 (hs (fun i => G 42 (79 + i)) (G 42 78).toNat 0 (31 * (if G 28 14 = 0 then y else hTx G y) + G 42 78)))) t D) → wp S 94 83 [some (qs 0), some (ql x), none, some (qi r), o] [] t D Q := by
    intro n
    induction n with
    | zero =>
      intro r x o hn hr q
      have q := q x rfl
      refine b94_83 (chk_i (by omega) (ite_i (fun c => absurd c (by omega)) fun _ => c98 hX.1 hG.1 ?_))
      by_cases c3 : G 28 14 = 0
      · rw [if_pos c3]
        rw [if_pos c3] at q
        exact chk_i (by omega) (by rw [if_pos rfl]; exact s5 x o q)
      · rw [if_neg c3]
        rw [if_neg c3] at q
        exact chk_i (by omega) (by rw [if_neg (by decide)]; exact x96 hX hG c3 (s5 _ o q))
    | succ n ih =>
      intro r x o hn hr q
      have hp := hG.2.1.2.2.2.2 (9 + r) (by omega) (by omega)
      have ef : vReg G r = G 42 (9 + r) := by unfold vReg; rw [if_neg (by omega)]
      refine b94_83 (chk_i (by omega) (ite_i (fun c => x76 hX.1 (by omega) ?_) fun c => absurd (by omega) c))
      rw [ef]
      exact chk_i (by omega) (c97 (ih (r + 1) _ o (by omega) (by omega) q))
  have s3 : ∀ (n : Int), (0 ≤ n ∧ n < G 42 13) → ∀ (m : Nat) (w x : Int), w + m = 12 → 0 ≤ w → (∀ y o, y = hs (vTellFrame G n) m w x → wp S 94 35 [some (qs 0), some (ql y), none, some (qi (n + 1)), o] [] t D Q) → wp S 94 49 [some (qs 0), some (ql x), none, some (qi n), some (qi w)] [] t D Q := by
    intro n hn m
    induction m with
    | zero => intro w x hm hw q; exact b94_49 (chk_i (by omega) (ite_i (fun c => absurd c (by omega)) fun _ => q x _ rfl))
    | succ m ih =>
      intro w x hm hw q
      have ef : vFrame G n w = vTellFrame G n w := by unfold vFrame; rw [if_neg (fun z => z hn), if_neg (by omega)]
      refine b94_49 (chk_i (by omega) (ite_i (fun c => x75 hX.1 hG (by omega) (by omega) ?_) fun c => absurd (by omega) c))
      rw [ef]
      exact chk_i (vTellFrame_R hG hn (by omega)) (c97 (ih (w + 1) _ (by omega) (by omega) q))
  have s2 : ∀ (m : Nat) (n x : Int) (o : Option qV), n + m = 8 → 0 ≤ n → (∀ y o, y = hFr G m n x → wp S 94 83 [some (qs 0), some (ql y), none, some (qi 0), o] [] t D Q) → wp S 94 35 [some (qs 0), some (ql x), none, some (qi n), o] [] t D Q := by
    intro m
    induction m with
    | zero =>
      intro n x o hm hn q
      refine b94_35 (chk_i o0.1 (chk_i (by omega) ?_))
      rw [e7]
      exact chk_i (by omega) (ite_i (fun c => absurd c (by omega)) fun _ => q x _ rfl)
    | succ m ih =>
      intro n x o hm hn q
      unfold hFr at q
      refine b94_35 (chk_i o0.1 (chk_i (by omega) ?_))
      rw [e7]
      refine chk_i (by omega) (ite_i (fun c => ?_) fun c => ?_)
      · rw [if_pos c] at q
        exact s3 n ⟨hn, c⟩ 12 0 x rfl (Int.le_refl _) fun y o hy => ih (n + 1) y o (by omega) (by omega) fun z o' hz => q z o' (by rw [hz, hy])
      · rw [if_neg c] at q
        exact q x _ rfl
  have s1 : ∀ (m : Nat) (f x : Int), f + m = 3 → 0 ≤ f → (∀ y, y = hFs G m f x → wp S 94 35 [some (qs 0), some (ql y), none, some (qi 0), none] [] t D Q) → wp S 94 6 [some (qs 0), some (ql x), none, some (qi f), none] [] t D Q := by
    intro m
    induction m with
    | zero =>
      intro f x hm hf q
      refine b94_6 (chk_i o0.1 (chk_i oc.1.1 (chk_i (by omega) ?_)))
      rw [hX.1.2.2.1]
      exact chk_i (by omega) (ite_i (fun c => absurd c (by omega)) fun _ => q x rfl)
    | succ m ih =>
      intro f x hm hf q
      unfold hFs at q
      refine b94_6 (chk_i o0.1 (chk_i oc.1.1 (chk_i (by omega) ?_)))
      rw [hX.1.2.2.1]
      refine chk_i (by omega) (ite_i (fun c => x95 hX hG ⟨hf, c⟩ (ih (f + 1) _ (by omega) (by omega) fun y hy => ?_)) fun c => ?_)
      · rw [if_pos c] at q; exact q y hy
      · rw [if_neg c] at q; exact q x rfl
  refine b94_0 (s1 3 0 1399 rfl (Int.le_refl _) fun y hy => s2 8 0 y _ rfl (Int.le_refl _) fun z o hz => s4 4 0 z o rfl (Int.le_refl _) fun v hv => ?_)
  have e : v = hA G := by rw [hv, hz, hy]; rfl
  rw [e]
  exact q
end KF
