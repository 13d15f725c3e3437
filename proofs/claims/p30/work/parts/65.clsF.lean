/-! ## the class: count, digest -/
def XQ (t : qT) (D G : qD) : Prop := XM t D G ∧ SRl D 7 8 9 10 (G 44) (G 28 31) ∧ PGr D G ∧ D 3 2 = G 28 27 ∧ D 0 7 = G 28 15
section KF
variable {S : (Nat → Int32) × Nat} {t : qT} {D G : qD} {Q : Int → qT → qD → Prop} {k : Nat}
theorem c12 (hO : CO t k) (hK : CR t D k G) (hC : CVd G) (q : Q (sPads (G 38) (G 28 14) 3 0 0) t D) : wp S 12 0 [some (qr k), none, none] [] t D Q := by
  have h1 := hC.1
  obtain ⟨h0, p1, p2, p3, p4, p5⟩ := hO
  have lp : ∀ (n : Nat) (f s : Int), f + n = 3 → 0 ≤ f → Q (sPads (G 38) (G 28 14) n f s) t D → wp S 12 4 [some (qr k), some (qi s), some (qi f)] [] t D Q := by
    intro n
    induction n with
    | zero =>
      intro f s hn hf q
      refine b12_4 (chk_i h0.1 (chk_i (by omega) ?_))
      rw [hK.1]
      exact chk_i (by omega) (ite_i (fun c => absurd c (by omega)) fun _ => q)
    | succ n ih =>
      intro f s hn hf q
      unfold sPads at q
      refine b12_4 (chk_i h0.1 (chk_i (by omega) ?_))
      rw [hK.1]
      refine chk_i (by omega) (ite_i (fun c => chk_i h0.1 (chk_i p5.1 (chk_i (by omega) ?_))) fun c => ?_)
      · rw [if_pos c] at q
        rw [hK.2.2.2.1 f hf c]
        exact ih (f + 1) _ (by omega) (by omega) q
      · rwa [if_neg c] at q
  exact b12_0 (lp 3 0 0 rfl (Int.le_refl _) q)
theorem c14 {f b : Int} (hO : CO t k) (hK : CR t D k G) (hC : CVd G) (hf : 0 ≤ f ∧ f < G 28 14) (hb : 0 ≤ b ∧ b < 10) (q : Q (if sAny (G 34) (10 * f + b) 4 0 = true then 1 else 0) t D) : wp S 14 0 [some (qr k), some (qi f), some (qi b), none] [] t D Q := by
  have h1 := hC.1
  have lp : ∀ (n : Nat) (r : Int), r + n = 4 → 0 ≤ r → Q (if sAny (G 34) (10 * f + b) n r = true then 1 else 0) t D → wp S 14 2 [some (qr k), some (qi f), some (qi b), some (qi r)] [] t D Q := by
    intro n
    induction n with
    | zero =>
      intro r hn hr q
      exact b14_2 (chk_i (by omega) (ite_i (fun c => absurd c (by omega)) fun _ => q))
    | succ n ih =>
      intro r hn hr q
      have e := hK.2.1 f b r hf.1 hf.2 hb.1 hb.2 hr (by omega)
      have r1 := hC.2.2.2.1 (40 * f + 4 * b + r) (by omega) (by omega)
      unfold sAny at q
      rw [show 4 * (10 * f + b) + r = 40 * f + 4 * b + r by omega] at q
      refine b14_2 (chk_i (by omega) (ite_i (fun c => chk_i hO.1.1 (c1 hO (by omega) ?_)) fun c => absurd c (by omega)))
      rw [e]
      refine chk_i (by omega) (ite_i (fun c2 => ?_) fun c2 => ?_)
      · rw [if_pos c2] at q; exact ih (r + 1) (by omega) (by omega) q
      · rw [if_neg c2, if_pos rfl] at q; exact q
  exact b14_0 (lp 4 0 rfl (Int.le_refl _) q)
theorem c13 (hO : CO t k) (hK : CR t D k G) (hC : CVd G) (q : Q (sSvd (G 34) (G 28 14) 30 0 0) t D) : wp S 13 0 [some (qr k), none, none, none] [] t D Q := by
  have h1 := hC.1
  have inn : ∀ (f : Int), (0 ≤ f ∧ f < G 28 14) → ∀ (n : Nat) (b s : Int), b + n = 10 → 0 ≤ b →
      (∀ s' o, Q (sSvd (G 34) (G 28 14) (20 - 10 * f).toNat (10 * f + 10) s') t D → wp S 13 4 [some (qr k), some (qi s'), some (qi (f + 1)), o] [] t D Q) →
      Q (sSvd (G 34) (G 28 14) (30 - 10 * f - b).toNat (10 * f + b) s) t D → wp S 13 14 [some (qr k), some (qi s), some (qi f), some (qi b)] [] t D Q := by
    intro f hf n
    induction n with
    | zero =>
      intro b s hn hb q1 q2
      obtain rfl : b = 10 := by omega
      rw [show 30 - 10 * f - 10 = 20 - 10 * f by omega] at q2
      exact b13_14 (chk_i (by omega) (ite_i (fun c => absurd c (by omega)) fun _ => q1 _ _ q2))
    | succ n ih =>
      intro b s hn hb q1 q2
      rw [show (30 - 10 * f - b).toNat = (30 - 10 * f - (b + 1)).toNat + 1 by omega] at q2
      unfold sSvd at q2
      rw [if_pos (by omega), show 10 * f + b + 1 = 10 * f + (b + 1) by omega] at q2
      refine b13_14 (chk_i (by omega) (ite_i (fun c => chk_i hO.1.1 (c14 hO hK hC hf ⟨hb, by omega⟩ (tf1 (fun c2 => ?_) fun c2 => ?_))) fun c => absurd c (by omega)))
      · rw [if_pos c2] at q2; exact ih (b + 1) _ (by omega) (by omega) q1 q2
      · rw [if_neg c2, Int.add_zero] at q2; exact ih (b + 1) _ (by omega) (by omega) q1 q2
  have out : ∀ (n : Nat) (f s : Int) (o : Option qV), f + n = G 28 14 → 0 ≤ f → Q (sSvd (G 34) (G 28 14) (30 - 10 * f).toNat (10 * f) s) t D → wp S 13 4 [some (qr k), some (qi s), some (qi f), o] [] t D Q := by
    intro n
    induction n with
    | zero =>
      intro f s o hn hf q
      refine b13_4 (chk_i hO.1.1 (chk_i (by omega) ?_))
      rw [hK.1]
      refine chk_i (by omega) (ite_i (fun c => absurd c (by omega)) fun _ => ?_)
      cases h : (30 - 10 * f).toNat with
      | zero => rw [h] at q; exact q
      | succ m => rw [h] at q; unfold sSvd at q; rwa [if_neg (by omega)] at q
    | succ n ih =>
      intro f s o hn hf q
      refine b13_4 (chk_i hO.1.1 (chk_i (by omega) ?_))
      rw [hK.1]
      refine chk_i (by omega) (ite_i (fun c => inn f ⟨hf, c⟩ 10 0 s rfl (Int.le_refl _) (fun s' o' q' => ih (f + 1) s' o' (by omega) (by omega) ?_) ?_) fun c => absurd (by omega) c)
      · rw [show 30 - 10 * (f + 1) = 20 - 10 * f by omega, show 10 * (f + 1) = 10 * f + 10 by omega]; exact q'
      · rw [Int.sub_zero, Int.add_zero]; exact q
  exact b13_0 (out (G 28 14).toNat 0 0 _ (by omega) (Int.le_refl _) q)
theorem x93 {w : Int} (hX : XQ t D G) (hG : RVs G) (hw : qR w) (q : Q (vCount G w) t D) : wp S 83 0 [some (qs 0), some (qi w)] [] t D Q := by
  obtain ⟨hM, hs, hp, h3, h0⟩ := hX
  obtain ⟨o0, oc, -⟩ := id hM.1
  unfold vCount at q
  refine b93_0 (c102 hw (by omega) (tf1 (fun c => chk_i hw (ite_i (fun c0 => chk_i o0.1 (chk_i oc.1.1 ?_)) fun c0 => ite_i (fun c1 => chk_i o0.1 (chk_i oc.1.1 (c12 oc hM.2.2 hG.1 ?_))) fun c1 => ite_i (fun c2 => chk_i o0.1 ?_) fun c2 => ite_i (fun c3 => ?_) fun c3 => ite_i (fun c4 => chk_i o0.1 (chk_i oc.1.1 (c13 oc hM.2.2 hG.1 ?_))) fun c4 => ite_i (fun c5 => ?_) fun c5 => ite_i (fun c6 => ?_) fun c6 => ?_)) fun c => ?_))
  · rw [if_pos c0] at q; rw [hM.2.2.1]; exact q
  · rwa [if_neg c0, if_pos c1] at q
  · rw [if_neg c0, if_neg c1, if_pos c2] at q; rw [hM.2.1.2.2.1]; exact q
  · rw [if_neg c0, if_neg c1, if_neg c2, if_pos c3] at q; rw [h3]; exact q
  · rwa [if_neg c0, if_neg c1, if_neg c2, if_neg c3, if_pos c4] at q
  · rw [if_neg c0, if_neg c1, if_neg c2, if_neg c3, if_neg c4, if_pos c5] at q; rw [hs.1]; exact q
  · rw [if_neg c0, if_neg c1, if_neg c2, if_neg c3, if_neg c4, if_neg c5, if_pos c6] at q; rw [hp.1]; exact q
  · rw [if_neg c0, if_neg c1, if_neg c2, if_neg c3, if_neg c4, if_neg c5, if_neg c6, if_pos (by omega)] at q; rw [h0]; exact q
  · rwa [if_neg (by omega), if_neg (by omega), if_neg (by omega), if_neg (by omega), if_neg (by omega), if_neg (by omega), if_neg (by omega), if_neg (by omega)] at q
/-! ranges of what is told, for the digest -/
theorem vCount_R (h : RVs G) {w : Int} : qR (vCount G w) := by
  have sv : ∀ (m : Nat) (i s : Int), s ≤ sSvd (G 34) (G 28 14) m i s ∧ sSvd (G 34) (G 28 14) m i s ≤ s + m := by
    intro m
    induction m with
    | zero => intro i s; exact ⟨Int.le_refl _, by show s ≤ s + (0 : Nat); omega⟩
    | succ m ih =>
      intro i s
      unfold sSvd
      split
      · have := ih (i + 1) (s + if sAny (G 34) i 4 0 = true then 1 else 0)
        have e : (0 : Int) ≤ (if sAny (G 34) i 4 0 = true then 1 else 0) ∧ (if sAny (G 34) i 4 0 = true then (1 : Int) else 0) ≤ 1 := by split <;> omega
        omega
      · omega
  have pv : ∀ (m : Nat) (f s : Int), 0 ≤ f → s ≤ sPads (G 38) (G 28 14) m f s ∧ sPads (G 38) (G 28 14) m f s ≤ s + 3 * m := by
    intro m
    induction m with
    | zero => intro f s _; exact ⟨Int.le_refl _, by show s ≤ s + 3 * (0 : Nat); omega⟩
    | succ m ih =>
      intro f s hf
      unfold sPads
      split
      · rename_i c
        have h2 := h.1.2.1 f hf c
        have := ih (f + 1) (s + G 38 f) (by omega)
        omega
      · omega
  have a1 := h.1.1
  have a2 := h.2.1.1
  have a3 := h.2.2.1
  have a4 := h.2.2.2.1
  have a5 := h.2.2.2.2.1
  have a6 := h.2.2.2.2.2.1
  have a7 := sv 30 0 0
  have a8 := pv 3 0 0 (Int.le_refl _)
  unfold vCount
  (repeat' split) <;> omega
theorem vTellFrame_R (h : RVs G) {n w : Int} (hn : 0 ≤ n ∧ n < G 42 13) (hw : 0 ≤ w ∧ w ≤ 11) : qR (vTellFrame G n w) := by
  have h13 := h.2.1.1
  have hcl : ∀ (r : Int), 0 ≤ r ∧ r < 4 → ∀ (m : Nat) (i v : Int), 0 ≤ i → i + m ≤ G 42 13 → qR v → qR (sCl (G 34) (G 42) r m i v) := by
    intro r hr m
    induction m with
    | zero => intro i v _ _ hv; exact hv
    | succ m ih =>
      intro i v h0 h1 hv
      unfold sCl
      refine ih _ _ (by omega) (by omega) ?_
      have ha := sAt_r h.2.1 h0 (by omega)
      have h1 := h.1.1
      unfold sReg
      split
      · exact hv
      · have := h.1.2.2.2.1 (40 * G 42 (sAt (G 42) i) + 4 * G 42 (sAt (G 42) i + 1) + r) (by omega) (by omega)
        unfold sCell at *
        exact h.2.1.2.2.2.2 _ (by omega) (by omega)
  have ha := sAt_r h.2.1 hn.1 hn.2
  unfold vTellFrame
  split
  · exact h.2.1.2.2.2.2 _ (by omega) (by omega)
  · exact hcl (w - 8) (by omega) _ _ _ (Int.le_refl _) (by omega) (h.2.1.2.2.2.2 _ (by omega) (by omega))
theorem sLo_R : ∀ (m : Nat) (ty b : Int), qR b → qR (sLo G m ty b) := by
  intro m
  induction m with
  | zero => intro ty b hb; exact hb
  | succ m ih => intro ty b hb; unfold sLo; refine ih _ _ ?_; split; exact qor_R; exact hb
end KF
