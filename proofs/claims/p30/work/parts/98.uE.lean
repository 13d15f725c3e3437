/-! ## the law acts: on its machine and on the class -/
theorem TB.sc {B T : Int → Int} {E E' : qD} (h : TB B T E) (e : SC E E') : TB B T E' := by
  obtain ⟨e0, e1, e2, e3, e4, e5, e6, e7⟩ := e
  unfold TB BK DNE at *
  rw [e0, e1, e2, e3, e4, e5, e6, e7]
  exact h
theorem LI.new {t t' : qT} {D D' G G' : qD} (h : LI t D G) (hJ : ∃ k, XJ t' D' G' k) (hR : RVs G') (hS : SC G G') (h28 : D' 28 = D 28) (h30 : D' 30 = D 30) (h29 : ∀ i, 0 ≤ i → i < 9 → D' 29 i = G' 42 i) (hM : MW 31 32 D' (G' 42)) (hG : GK 33 D' (G' 42)) : LI t' D' G' :=
  ⟨hJ, hR, by rw [h28, h30]; exact h.2.2.1.sc hS, h29, hM, hG⟩
theorem MW.c5 {am aw : Nat} {D : qD} {N : Int → Int} {v : Int} (h : MW am aw D N) (hne : am ≠ aw) : MW am aw (up D am 5 v) N := by
  refine ⟨fun j x y => ?_, ?_, fun j x y => ?_⟩
  · rw [up_eq, upr_s, ui_n (by omega)]; exact h.1 j x y
  · rw [up_eq, upr_s, ui_n (by decide)]; exact h.2.1
  · rw [up_eq, upr_n (fun z => hne z.symm)]; exact h.2.2 j x y
theorem GK.r {ag : Nat} {D D' : qD} {K K' : Int → Int} (h : GK ag D K) (e : D' ag = D ag) (h78 : ∀ i, 78 ≤ i → K' i = K i) (h0 : 0 ≤ K 78) : GK ag D' K' := by
  refine ⟨by rw [e, h78 78 (by decide)]; exact h.1, fun i a b => ?_⟩
  rw [h78 78 (by decide)] at b
  rw [e, h78 _ (by omega)]; exact h.2 i a b
theorem sCall_o2 {E : qD} {N : Int → Int} {f i : Int} (hC : CVd E) (hV : RVd (E 28 14) N) (h8 : N 13 < 8) (hf : 0 ≤ f ∧ f < E 28 14) (hi : 78 ≤ i) : sCall (E 37) (E 39) N f i = N i := by
  have h13 := hV.1
  unfold sCall
  rw [sSv_n hC hf _ _ _ _ _ (Int.le_refl 0) (by omega), ui_n (by omega)]
  unfold sClr
  rw [cpf_n (by omega), ui_n (by omega)]
theorem sStep_o2 {E : qD} {N : Int → Int} {i : Int} (hC : CVd E) (hV : RVd (E 28 14) N) (h13 : 1 ≤ N 13) (hi : i < 14 ∨ 78 ≤ i) : sStep (E 37) (E 39) N i = N i := by
  have ha := sAt_r hV (Int.le_refl 0) (by omega)
  unfold sStep
  rw [sSv_n hC ha.2.1 _ _ _ _ _ (Int.le_refl 0) (by omega), ui_n (by omega)]
theorem sGo_o2 {E : qD} (hC : CVd E) {i : Int} (hi : i < 14 ∨ 78 ≤ i) : ∀ (k : Nat) (N : Int → Int), RVd (E 28 14) N → 1 ≤ N 13 → N (sAt N 0 + 1) + k ≤ 9 → sGo (E 37) (E 39) k N i = N i := by
  intro k
  induction k with
  | zero => intro N _ _ _; rfl
  | succ k ih =>
    intro N hV h13 h9
    have hs := sStep_13 hC h13 hV
    have := ih (sStep (E 37) (E 39) N) (RVd.step hC h13 (by omega) hV) (by rw [hs.1]; exact h13) (by rw [hs.2.1, hs.2.2.2]; omega)
    show sGo (E 37) (E 39) k (sStep (E 37) (E 39) N) i = _
    rw [this]; exact sStep_o2 hC hV h13 hi
/-- back, on the law's machine -/
theorem MWback {am aw : Nat} {D D' : qD} {N sv : Int → Int} (h : MW am aw D N) (hne : am ≠ aw) (hw : D' aw = D aw) (hm : ∀ k, D' am k = if 0 ≤ k ∧ k < 4 then sReg sv N 0 k (ui (D am) 4 (N 13 - 1) k) else ui (D am) 4 (N 13 - 1) k) : MW am aw D' (sBack sv N) := by
  unfold sBack
  refine ⟨fun k x y => ?_, ?_, fun i x y => ?_⟩
  · rw [hm k, if_pos ⟨x, y⟩, ui_n (by omega), ui_n (by omega), cpf_y (by omega), h.1 k x y, show 9 + k - 9 = k by omega]
  · rw [hm 4, if_neg (by decide), ui_s, ui_s]
  · rw [hw, ui_n (by omega), cpf_n (by omega)]; exact h.2.2 i x y
section LAct
variable {S : (Nat → Int32) × Nat} {t : qT} {D G : qD} {Q : Int → qT → qD → Prop} {x : Int}
/-- static changes leave the class -/
theorem XJ.sd {D' : qD} {k : Nat} (h : XJ t D G k) (e : ∀ b, ¬ (28 ≤ b ∧ b < 34) → D' b = D b) : XJ t D' G k := h.kx (Nat.le_refl _) fun b _ => ⟨rfl, rfl, e b⟩
theorem r111_58 {x8 f : Int} (hL : LI t D G) (h8 : ¬ G 42 13 = 8) (hf : 0 ≤ f ∧ f < G 28 14) (q : ∀ t' D' G', LI t' D' G' → t'.2.2.1 ≤ t.2.2.1 + 40 → t'.2.2.2 ≤ t.2.2.2 + 800 → Q 1 t' D') : wp S 111 58 [some (qs 0), some (qs 28), some (qs 29), some (qs 30), some (qs 31), some (qs 32), some (qs 33), some (qi x), some (qi x8), some (qi f), none, none] [] t D Q := by
  obtain ⟨⟨k, hX⟩, hR, hT, h9, hM, hG⟩ := id hL
  have hC := hR.1
  have hV := hR.2.1
  have h13 := hV.1
  have hnf := hT.2.1
  refine wp_st fun hqs => ?_
  have h31 : AR t 31 6 := AR.s hqs (by decide) rfl
  have h32 : AR t 32 64 := AR.s hqs (by decide) rfl
  apply lb111_58
  refine wp_cg (L := [some (qs 28), some (qs 30), some (qr 31), some (qr 32), some (qi f), none, none]) (st := []) rfl rfl ?_
  refine r103 hT h31 h32 (by decide) hM (by omega) hf fun D1 g1 g2 => ?_
  have ep : pCall G f = (G 42 13 + 1, upr (sKeep G) 42 (sCall (G 37) (G 39) (G 42) f)) := by
    unfold pCall
    rw [if_neg (by omega), if_neg h8]
  have hX1 : XJ t (up D1 31 5 1) G k := hX.sd fun b hb => by rw [up_eq, upr_n (by omega)]; exact g1 b (by omega) (by omega)
  have hM1 := g2.c5 (v := 1) (by decide)
  have hrk := rk_call (f := f) hR
  rw [ep] at hrk
  refine x77 hX1 hR (by omega) fun t2 D2 hx => ?_
  rw [ep] at hx ⊢
  obtain ⟨hJ, hkr, x1, x2⟩ := hx
  have e31 : D2 31 = up D1 31 5 1 31 := hkr 31 (by decide) (by decide)
  have e32 : D2 32 = up D1 31 5 1 32 := hkr 32 (by decide) (by decide)
  have hM2 : MW 31 32 D2 (sCall (G 37) (G 39) (G 42) f) := hM1.cg e31 e32 fun _ _ _ => rfl
  have e13 := sCall_13 (N := G 42) hC hf (by omega)
  have ek : ∀ b, 28 ≤ b → b < 34 → b ≠ 31 → b ≠ 32 → D2 b = D b := fun b h1 h2 h3 h4 => by rw [hkr b h1 h2, up_eq, upr_n h3]; exact g1 b h3 h4
  show chk (qR (G 42 13 + 1)) _
  rw [hM2.2.1, e13]
  refine chk_i (by omega) (chk_i (by omega) (ite_i (fun _ => ?_) fun h => absurd rfl h))
  refine q t2 D2 _ (hL.new hJ hrk.1 (SC.keep.trans SC.u42) (ek 28 (by decide) (by decide) (by decide) (by decide)) (ek 30 (by decide) (by decide) (by decide) (by decide)) (fun i a b => ?_) hM2 ?_) (by omega) (by omega)
  · show D2 29 i = sCall (G 37) (G 39) (G 42) f i
    rw [ek 29 (by decide) (by decide) (by decide) (by decide), sCall_9 hC hV hf b]; exact h9 i a b
  · show GK 33 D2 (sCall (G 37) (G 39) (G 42) f)
    exact hG.r (ek 33 (by decide) (by decide) (by decide) (by decide)) (fun i hi => sCall_o2 hC hV (by omega) hf hi) hV.2.2.2.1.1
theorem r111_162 {x8 b l10 : Int} (hL : LI t D G) (hb : 1 ≤ b ∧ b ≤ 9) (hn : G 42 13 = 0 ∨ 9 < G 42 (sAt (G 42) 0 + 1) + b) (q : ∀ t' D' G', LI t' D' G' → t'.2.2.1 ≤ t.2.2.1 + 40 → t'.2.2.2 ≤ t.2.2.2 + 800 → Q 1 t' D') : wp S 111 162 [some (qs 0), some (qs 28), some (qs 29), some (qs 30), some (qs 31), some (qs 32), some (qs 33), some (qi x), some (qi x8), some (qi b), some (qi l10), none] [] t D Q := by
  obtain ⟨⟨k, hX⟩, hR, -, -, -, -⟩ := id hL
  have ep : pGo G b = (-103, G) := by
    unfold pGo
    rw [if_neg (by omega)]
    by_cases c : G 42 13 = 0
    · rw [if_pos c]
    · rw [if_neg c, if_pos (by omega)]
  apply lb111_162
  refine x78 hX hR (by omega) fun t1 D1 hx => ?_
  rw [ep] at hx ⊢
  have hL1 := hL.xk hx
  obtain ⟨hJ, hkr, x1, x2⟩ := hx
  exact chk_i (show qR (-103) by decide) (ite_i (fun _ => q t1 D1 G hL1 (by omega) (by omega)) fun h => absurd rfl h)
theorem r111_182 {x8 b l10 : Int} {D0 : qD} (hL : LI t D0 G) (hb : 1 ≤ b ∧ b ≤ 9) (h13 : 1 ≤ G 42 13) (h9' : G 42 (sAt (G 42) 0 + 1) + b ≤ 9) (h10 : l10 = 8 * (G 42 13 - 1)) (q : ∀ t' D' G', LI t' D' G' → t'.2.2.1 ≤ t.2.2.1 + 40 → t'.2.2.2 ≤ t.2.2.2 + 800 → Q 1 t' D') :
    ∀ (m : Nat) (j : Int) (D : qD) (N : Int → Int), j + m = b → 0 ≤ j → (∀ c, c ≠ 32 → D c = D0 c) → MW 31 32 D N → RVd (G 28 14) N → 1 ≤ N 13 → N 13 = G 42 13 → N (sAt N 0 + 1) + m ≤ 9 → sGo (G 37) (G 39) m N = sGo (G 37) (G 39) b.toNat (G 42) → wp S 111 182 [some (qs 0), some (qs 28), some (qs 29), some (qs 30), some (qs 31), some (qs 32), some (qs 33), some (qi x), some (qi x8), some (qi b), some (qi l10), some (qi j)] [] t D Q := by
  obtain ⟨⟨k, hX⟩, hR, hT, h9, hM0, hG⟩ := id hL
  have hC := hR.1
  have hV0 := hR.2.1
  intro m
  induction m with
  | zero =>
    intro j D N hj h0 hD hM hV hN13 eN hN9 e
    have e : N = sGo (G 37) (G 39) b.toNat (G 42) := e
    have hgr := sGo_r hC b.toNat (G 42) hV0 h13 (by omega)
    rw [← e] at hgr
    have ep : pGo G b = (G 42 (sAt (G 42) 0 + 1) + b, upr (sKeep G) 42 N) := by
      unfold pGo
      rw [if_neg (by omega), if_neg (by omega), if_neg (by omega), e]
    apply lb111_182
    refine chk_i (by first | assumption | decide | omega) ?_
    refine chk_i (by first | assumption | decide | omega) ?_
    refine ite_i (fun h => absurd h (by first | decide | omega)) (fun _ => ?_)
    have hX1 : XJ t (up D 31 5 1) G k := hX.sd fun c hc => by rw [up_eq, upr_n (by omega)]; exact hD c (by omega)
    have hM1 := hM.c5 (v := 1) (by decide)
    have hrk := rk_go (b := b) hR
    rw [ep] at hrk
    apply lb111_213
    refine x78 hX1 hR (by omega) fun t2 D2 hx => ?_
    rw [ep] at hx ⊢
    obtain ⟨hJ, hkr, x1, x2⟩ := hx
    have e31 : D2 31 = up D 31 5 1 31 := hkr 31 (by decide) (by decide)
    have e32 : D2 32 = up D 31 5 1 32 := hkr 32 (by decide) (by decide)
    have hM2 : MW 31 32 D2 N := hM1.cg e31 e32 fun _ _ _ => rfl
    have ek : ∀ b, 28 ≤ b → b < 34 → b ≠ 31 → b ≠ 32 → D2 b = D0 b := fun b h1 h2 h3 h4 => by rw [hkr b h1 h2, up_eq, upr_n h3]; exact hD b h4
    have hv8 := hV0.1
    have hrow := hV0.2.1 (G 42 13 - 1) (by omega) (by omega)
    have ew : D2 32 (l10 + 1) = G 42 (sAt (G 42) 0 + 1) + b := by
      rw [hM2.2.2 _ (by omega) (by omega), show 14 + (l10 + 1) = sAt (G 42) 0 + 1 by unfold sAt; omega, hgr.2.2]
      omega
    have hq9 : 0 ≤ G 42 (sAt (G 42) 0 + 1) := by unfold sAt; rw [show G 42 13 - 1 - 0 = G 42 13 - 1 by omega]; exact hrow.2.2.1
    show chk _ (chk (qR (G 42 (sAt (G 42) 0 + 1) + b)) _)
    rw [ew]
    refine chk_i (by omega) (chk_i (by omega) (chk_i (by omega) (ite_i (fun _ => ?_) fun h => absurd rfl h)))
    refine q t2 D2 _ (hL.new hJ hrk.1 (SC.keep.trans SC.u42) (ek 28 (by decide) (by decide) (by decide) (by decide)) (ek 30 (by decide) (by decide) (by decide) (by decide)) (fun i a c => ?_) hM2 ?_) (by omega) (by omega)
    · show D2 29 i = N i
      rw [ek 29 (by decide) (by decide) (by decide) (by decide), e, sGo_o2 hC (by omega) b.toNat (G 42) hV0 h13 (by omega)]; exact h9 i a c
    · show GK 33 D2 N
      refine hG.r (ek 33 (by decide) (by decide) (by decide) (by decide)) (fun i hi => ?_) hV0.2.2.2.1.1
      rw [e]; exact sGo_o2 hC (Or.inr hi) b.toNat (G 42) hV0 h13 (by omega)
  | succ m ih =>
    intro j D N hj h0 hD hM hV hN13 eN hN9 e
    have hv8 := hV.1
    have hat := sAt_r hV (Int.le_refl 0) (by omega)
    refine wp_st fun hqs => ?_
    have h31 : AR t 31 6 := AR.s hqs (by decide) rfl
    have h32 : AR t 32 64 := AR.s hqs (by decide) rfl
    have ew : D 32 (l10 + 1) = N (sAt N 0 + 1) := by
      rw [hM.2.2 _ (by omega) (by omega), show 14 + (l10 + 1) = sAt N 0 + 1 by unfold sAt; omega]
    apply lb111_182
    rw [ew]
    refine chk_i (by first | assumption | decide | omega) ?_
    refine chk_i (by first | assumption | decide | omega) ?_
    refine ite_i (fun _ => ?_) (fun h => absurd (by first | rfl | decide | omega) h)
    refine chk_i (by first | assumption | decide | omega) ?_
    refine wp_cg (L := [some (qs 28), some (qs 30), some (qr 31), some (qr 32), some (qi (N (sAt N 0 + 1) + 1)), none, none, none, none]) (st := []) rfl rfl ?_
    refine r102 (by rw [hD 28 (by decide), hD 30 (by decide)]; exact hT) h31 h32 (by decide) hM (by omega) hat.2.1 (by omega) fun D1 g1 g2 => ?_
    have hs := sStep_13 hC (by omega) hV
    refine ih (j + 1) D1 (sStep (G 37) (G 39) N) (by omega) (by omega) (fun c hc => (g1 c hc).trans (hD c hc)) g2 (RVd.step hC (by omega) (by omega) hV) (by rw [hs.1]; omega) (by rw [hs.1]; exact eN) (by rw [hs.2.1, hs.2.2.2]; omega) e
theorem r111_123 {x8 s0 s1 : Int} (hL : LI t D G) (hs : 0 < s0 ∧ s0 ≤ 9) (q : ∀ t' D' G', LI t' D' G' → t'.2.2.1 ≤ t.2.2.1 + 40 → t'.2.2.2 ≤ t.2.2.2 + 800 → Q 1 t' D') : wp S 111 123 [some (qs 0), some (qs 28), some (qs 29), some (qs 30), some (qs 31), some (qs 32), some (qs 33), some (qi x), some (qi x8), none, none, none] [(qi s0), (qi s1), (qi 1)] t D Q := by
  obtain ⟨⟨k, hX⟩, hR, hT, h9, hM, hG⟩ := id hL
  have hV := hR.2.1
  have h13 := hV.1
  apply lb111_123
  refine r97 (by omega) fun v v0 v1 => ?_
  rw [hM.2.1]
  refine chk_i (by omega) (ite_i (fun c => r111_162 hL (by omega) (Or.inl c) q) fun c => ?_)
  have hrow := hV.2.1 (G 42 13 - 1) (by omega) (by omega)
  have ew : D 32 (8 * (G 42 13 - 1) + 1) = G 42 (sAt (G 42) 0 + 1) := by
    rw [hM.2.2 _ (by omega) (by omega), show 14 + (8 * (G 42 13 - 1) + 1) = sAt (G 42) 0 + 1 by unfold sAt; omega]
  have hq9 : 0 ≤ G 42 (sAt (G 42) 0 + 1) ∧ G 42 (sAt (G 42) 0 + 1) ≤ 9 := by unfold sAt; rw [show G 42 13 - 1 - 0 = G 42 13 - 1 by omega]; exact hrow.2.2
  rw [ew]
  refine chk_i (by omega) (chk_i (by omega) (ite_i (fun c2 => r111_162 hL (by omega) (Or.inr c2) q) fun c2 => lb111_179 ?_))
  exact r111_182 (D0 := D) hL (by omega) (by omega) (by omega) rfl q (1 + v).toNat 0 D (G 42) (by omega) (Int.le_refl _) (fun _ _ => rfl) hM hV (by omega) rfl (by omega) rfl
theorem r111_336 {x8 : Int} (hL : LI t D G) (hn : ¬ G 42 13 = 0) (q : ∀ t' D' G', LI t' D' G' → t'.2.2.1 ≤ t.2.2.1 + 40 → t'.2.2.2 ≤ t.2.2.2 + 800 → Q 1 t' D') : wp S 111 336 [some (qs 0), some (qs 28), some (qs 29), some (qs 30), some (qs 31), some (qs 32), some (qs 33), some (qi x), some (qi x8), none, none, none] [] t D Q := by
  obtain ⟨⟨k, hX⟩, hR, hT, h9, hM, hG⟩ := id hL
  have hC := hR.1
  have hV := hR.2.1
  have h13 := hV.1
  have h34 := hX.1
  refine wp_st fun hqs => ?_
  have h31 : AR t 31 6 := AR.s hqs (by decide) rfl
  have h32 : AR t 32 64 := AR.s hqs (by decide) rfl
  apply lb111_336
  rw [hM.2.1, show G 42 13 - 1 = G 42 13 - 1 - 0 by omega, up_eq]
  refine wp_cg (L := [some (qs 28), some (qs 30), some (qr 32), some (qi (G 42 13 - 1 - 0)), some (qr 31), none, none]) (st := []) rfl rfl ?_
  refine r104 (N := G 42) (n := 0) (ni := 6) (by rw [upr_n (by decide), upr_n (by decide)]; exact hT) hC h32 h31 (by decide) (by decide) hV ⟨Int.le_refl _, by omega⟩ (fun i a b => by rw [upr_n (by decide)]; exact hM.2.2 i a b) fun t1 D1 k1 g1 => ?_
  have hd : ∀ b, b < t.2.2.1 → b ≠ 31 → D1 b = D b := fun b hb hb1 => by rw [(k1.2 b hb).2.2 hb1 hb1, upr_n hb1]
  have hM1 : MW 31 32 D1 (sBack (G 34) (G 42)) := MWback hM (by decide) (hd 32 (by omega) (by decide)) fun k => by rw [g1 k, upr_s, show G 42 13 - 1 - 0 = G 42 13 - 1 by omega]
  have hX1 : XJ t1 (up D1 31 5 1) G k := hX.kx k1.1.1 fun b hb => ⟨(k1.2 b hb).1, (k1.2 b hb).2.1, fun hn => by rw [up_eq, upr_n (by omega)]; exact hd b hb (by omega)⟩
  have hM2 := hM1.c5 (v := 1) (by decide)
  have ep : pBack G = (G 42 13 - 1, upr (sKeep G) 42 (sBack (G 34) (G 42))) := by unfold pBack; rw [if_neg hn]
  have hrk := rk_back hR
  rw [ep] at hrk
  refine x80 hX1 hR fun t2 D2 hx => ?_
  rw [ep] at hx ⊢
  obtain ⟨hJ, hkr, x1, x2⟩ := hx
  have e31 : D2 31 = up D1 31 5 1 31 := hkr 31 (by decide) (by decide)
  have e32 : D2 32 = up D1 31 5 1 32 := hkr 32 (by decide) (by decide)
  have hM3 : MW 31 32 D2 (sBack (G 34) (G 42)) := hM2.cg e31 e32 fun _ _ _ => rfl
  have ek : ∀ b, 28 ≤ b → b < 34 → b ≠ 31 → D2 b = D b := fun b h1 h2 h3 => by rw [hkr b h1 h2, up_eq, upr_n h3]; exact hd b (by omega) h3
  have e13 : sBack (G 34) (G 42) 13 = G 42 13 - 1 := by unfold sBack; rw [ui_s]
  have y1 := k1.1.2
  show chk (qR (G 42 13 - 1)) _
  rw [hM3.2.1, e13]
  refine chk_i (by omega) (chk_i (by omega) (ite_i (fun _ => ?_) fun h => absurd rfl h))
  refine q t2 D2 _ (hL.new hJ hrk.1 (SC.keep.trans SC.u42) (ek 28 (by decide) (by decide) (by decide)) (ek 30 (by decide) (by decide) (by decide)) (fun i a b => ?_) hM3 ?_) (by omega) (by omega)
  · show D2 29 i = sBack (G 34) (G 42) i
    unfold sBack
    rw [ek 29 (by decide) (by decide) (by decide), ui_n (by omega), cpf_n (by omega)]; exact h9 i a b
  · show GK 33 D2 (sBack (G 34) (G 42))
    refine hG.r (ek 33 (by decide) (by decide) (by decide)) (fun i hi => ?_) hV.2.2.2.1.1
    unfold sBack
    rw [ui_n (by omega), cpf_n (by omega)]
theorem r111_439 {x8 ty : Int} {l10 : Nat} {t0 : qT} {D0 : qD} (hL : LI t0 D0 G) (hk : KX l10 l10 t0 t D0 D 1 32) (hl : l10 = t0.2.2.1) (hA : AR t l10 32) (ht : 0 ≤ ty ∧ ty ≤ 4) (hc : ¬ (sCat (G 38) (G 40) (G 42) ty).1 = -1) (g0 : D l10 0 = (sCat (G 38) (G 40) (G 42) ty).1) (g1 : D l10 1 = (sCat (G 38) (G 40) (G 42) ty).2.1) (g2 : GK l10 D (lkF (G 38) (G 40) (G 42) ty 8 0 (ui (G 42) 78 0))) (q : ∀ t' D' G', LI t' D' G' → t'.2.2.1 ≤ t0.2.2.1 + 40 → t'.2.2.2 ≤ t0.2.2.2 + 800 → Q 1 t' D') : wp S 111 439 [some (qs 0), some (qs 28), some (qs 29), some (qs 30), some (qs 31), some (qs 32), some (qs 33), some (qi x), some (qi x8), some (qi ty), some (qr l10), none] [] t D Q := by
  have hLt := hL.kx hk (by omega) (by omega)
  obtain ⟨⟨k0, hX0⟩, -, -, -, -, -⟩ := id hL
  have h340 := hX0.1
  obtain ⟨⟨k, hX⟩, hR, hT, h9, hM, hG⟩ := id hLt
  have hC := hR.1
  have hV := hR.2.1
  have h13 := hV.1
  have hnf := hT.2.1
  have hcp := sCat_cp hV ty hc
  have hlk := sRaise_lk hC hV hc
  have hr := sRaise_r (ty := ty) (c := (sCat (G 38) (G 40) (G 42) ty).1) (cp := (sCat (G 38) (G 40) (G 42) ty).2.1) hC hV hcp.1 ⟨hcp.2.1, hcp.2.2.2⟩
  have h78 := hr.1.2.2.2.1
  refine wp_st fun hqs => ?_
  have h31 : AR t 31 6 := AR.s hqs (by decide) rfl
  have h32 : AR t 32 64 := AR.s hqs (by decide) rfl
  have h33 : AR t 33 32 := AR.s hqs (by decide) rfl
  apply lb111_439
  refine wp_cg (L := [some (qr 33), some (qr l10), some (qi 32), none]) (st := []) rfl rfl ?_
  refine r110 (by decide) ⟨h33.k1, by rw [h33.1]; decide⟩ ⟨hA.k1, by rw [hA.1]; decide⟩ (by omega) fun D1 a1 a2 => ?_
  have hM1 : MW 31 32 D1 (G 42) := hM.cg (a1 31 (by decide)) (a1 32 (by decide)) fun _ _ _ => rfl
  refine wp_cg (L := [some (qs 28), some (qs 30), some (qr 31), some (qr 32), some (qr 33), none]) (st := []) rfl rfl ?_
  refine r107 (ty := ty) (N := G 42) (c := (sCat (G 38) (G 40) (G 42) ty).1) (cp := (sCat (G 38) (G 40) (G 42) ty).2.1) (by rw [a1 28 (by decide), a1 30 (by decide)]; exact hT) hC hV h31 h32 h33 (by decide) (by decide) (by decide) hM1 hcp.1 ⟨hcp.2.1, hcp.2.2.2⟩ ((a2 0 (by decide) (by decide)).trans g0) ((a2 1 (by decide) (by decide)).trans g1) fun t2 D2 k2 b1 => ?_
  have hd : ∀ b, b < t.2.2.1 → b ≠ 31 → b ≠ 32 → b ≠ 33 → D2 b = D b := fun b hb n1 n2 n3 => by rw [(k2.2 b hb).2.2 n1 n2]; exact a1 b n3
  have h34 := hX.1
  have hX2 : XJ t2 (up D2 31 5 1) G k := hX.kx k2.1.1 fun b hb => ⟨(k2.2 b hb).1, (k2.2 b hb).2.1, fun hn => by rw [up_eq, upr_n (by omega)]; exact hd b hb (by omega) (by omega) (by omega)⟩
  have hM2 := b1.c5 (v := 1) (by decide)
  have e33 : D2 33 = D1 33 := (k2.2 33 (by omega)).2.2 (by decide) (by decide)
  have ep : pRaise G ty = ((sCat (G 38) (G 40) (G 42) ty).1, upr (sKeep G) 42 (sRaise (G 34) (G 38) (G 40) (G 42) ty (sCat (G 38) (G 40) (G 42) ty).1 (sCat (G 38) (G 40) (G 42) ty).2.1)) := by
    unfold pRaise
    rw [if_neg (by omega), if_neg (by omega), if_neg hc]
  have hrk := rk_raise (ty := ty) hR
  rw [ep] at hrk
  refine x81 hX2 hR (by omega) fun t3 D3 hx => ?_
  rw [ep] at hx ⊢
  obtain ⟨hJ, hkr, x1, x2⟩ := hx
  have c31 : D3 31 = up D2 31 5 1 31 := hkr 31 (by decide) (by decide)
  have c32 : D3 32 = up D2 31 5 1 32 := hkr 32 (by decide) (by decide)
  have c33 : D3 33 = D1 33 := by rw [hkr 33 (by decide) (by decide), up_eq, upr_n (by decide)]; exact e33
  have hM3 : MW 31 32 D3 (sRaise (G 34) (G 38) (G 40) (G 42) ty (sCat (G 38) (G 40) (G 42) ty).1 (sCat (G 38) (G 40) (G 42) ty).2.1) := hM2.cg c31 c32 fun _ _ _ => rfl
  have ek : ∀ b, 28 ≤ b → b < 34 → b ≠ 31 → b ≠ 32 → b ≠ 33 → D3 b = D b := fun b h1 h2 n1 n2 n3 => by rw [hkr b h1 h2, up_eq, upr_n n1]; exact hd b (by omega) n1 n2 n3
  have y0 := hk.1.2
  have y1 := k2.1.2
  have es0 : D3 33 0 = (sCat (G 38) (G 40) (G 42) ty).1 := by rw [c33, a2 0 (by decide) (by decide)]; exact g0
  show chk (qR (sCat (G 38) (G 40) (G 42) ty).1) _
  rw [es0]
  refine chk_i (by omega) (chk_i (by omega) (ite_i (fun _ => ?_) fun h => absurd rfl h))
  refine q t3 D3 _ (hLt.new hJ hrk.1 (SC.keep.trans SC.u42) (ek 28 (by decide) (by decide) (by decide) (by decide) (by decide)) (ek 30 (by decide) (by decide) (by decide) (by decide) (by decide)) (fun i a b => ?_) hM3 ?_) (by omega) (by omega)
  · show D3 29 i = sRaise (G 34) (G 38) (G 40) (G 42) ty (sCat (G 38) (G 40) (G 42) ty).1 (sCat (G 38) (G 40) (G 42) ty).2.1 i
    rw [ek 29 (by decide) (by decide) (by decide) (by decide) (by decide), sRaise_9 hC hV hcp.1 ⟨hcp.2.1, hcp.2.2.2⟩ b]; exact h9 i a b
  · show GK 33 D3 (sRaise (G 34) (G 38) (G 40) (G 42) ty (sCat (G 38) (G 40) (G 42) ty).1 (sCat (G 38) (G 40) (G 42) ty).2.1)
    refine ⟨?_, fun i a b => ?_⟩
    · rw [c33, a2 2 (by decide) (by decide), g2.1, hlk 78 (by decide)]
    · rw [c33, a2 (3 + i) (by omega) (by omega), hlk (79 + i) (by omega)]
      refine g2.2 i a ?_
      rw [← hlk 78 (by decide)]; exact b
theorem r111_537 {x8 f p : Int} (hL : LI t D G) (hf : 0 ≤ f ∧ f < G 28 14) (hp : 0 ≤ p ∧ p < G 38 f) (q : ∀ t' D' G', LI t' D' G' → t'.2.2.1 ≤ t.2.2.1 + 40 → t'.2.2.2 ≤ t.2.2.2 + 800 → Q 1 t' D') : wp S 111 537 [some (qs 0), some (qs 28), some (qs 29), some (qs 30), some (qs 31), some (qs 32), some (qs 33), some (qi x), some (qi x8), some (qi f), some (qi p), none] [] t D Q := by
  obtain ⟨⟨k, hX⟩, hR, hT, h9, hM, hG⟩ := id hL
  have hC := hR.1
  have hV := hR.2.1
  have hnf := hT.2.1
  have hpm := (hC.2.1 f hf.1 hf.2).2.2
  have hi : 0 ≤ 3 * f + p ∧ 3 * f + p < 9 := by omega
  have hkd := hV.2.2.1 _ hi.1 hi.2
  refine lb111_537 (chk_i hi (r97 (by decide) fun kd k0 k1 => chk_i hi (chk_i hi ?_)))
  have e1 : (up (up D 29 (3 * f + p) kd) 31 5 1) 29 (3 * f + p) = kd := by rw [up_eq _ 31, upr_n (by decide), up_eq, upr_s, ui_s]
  rw [e1, h9 _ hi.1 hi.2]
  have hX1 : XJ t (up (up D 29 (3 * f + p) kd) 31 5 1) G k := hX.sd fun b hb => by rw [up_eq, upr_n (by omega), up_eq, upr_n (by omega)]
  have hMa : MW 31 32 (up D 29 (3 * f + p) kd) (ui (G 42) (3 * f + p) kd) := hM.cg (by rw [up_eq, upr_n (by decide)]) (by rw [up_eq, upr_n (by decide)]) fun i a b => ui_n (by omega)
  have hM1 := hMa.c5 (v := 1) (by decide)
  have ep : pChange G f p kd = (G 42 (3 * f + p), upr (sKeep G) 42 (ui (G 42) (3 * f + p) kd)) := by
    unfold pChange
    rw [if_neg (by omega), if_neg (by omega)]
  have hrk := rk_change (f := f) (p := p) (kd := kd) hR
  rw [ep] at hrk
  refine x82 hX1 hR (by omega) (by omega) (by omega) fun t2 D2 hx => ?_
  rw [ep] at hx ⊢
  obtain ⟨hJ, hkr, x1, x2⟩ := hx
  have hM2 : MW 31 32 D2 (ui (G 42) (3 * f + p) kd) := hM1.cg (hkr 31 (by decide) (by decide)) (hkr 32 (by decide) (by decide)) fun _ _ _ => rfl
  have ek : ∀ b, 28 ≤ b → b < 34 → b ≠ 29 → b ≠ 31 → D2 b = D b := fun b h1 h2 n1 n2 => by rw [hkr b h1 h2, up_eq, upr_n n2, up_eq, upr_n n1]
  have e29 : D2 29 = ui (D 29) (3 * f + p) kd := by rw [hkr 29 (by decide) (by decide), up_eq, upr_n (by decide), up_eq, upr_s]
  show chk (qR (G 42 (3 * f + p))) _
  refine chk_i (by omega) (chk_i (by omega) (ite_i (fun _ => ?_) fun h => absurd rfl h))
  refine q t2 D2 _ (hL.new hJ hrk.1 (SC.keep.trans SC.u42) (ek 28 (by decide) (by decide) (by decide) (by decide)) (ek 30 (by decide) (by decide) (by decide) (by decide)) (fun i a b => ?_) hM2 ?_) (by omega) (by omega)
  · show D2 29 i = ui (G 42) (3 * f + p) kd i
    rw [e29]
    by_cases c : i = 3 * f + p
    · rw [c, ui_s, ui_s]
    · rw [ui_n c, ui_n c]; exact h9 i a b
  · show GK 33 D2 (ui (G 42) (3 * f + p) kd)
    exact hG.r (ek 33 (by decide) (by decide) (by decide) (by decide)) (fun i hi2 => ui_n (by omega)) hV.2.2.2.1.1
/-- one step of the law -/
theorem r111 (hL0 : LI t D G) (q : ∀ t' D' G', LI t' D' G' → t'.2.2.1 ≤ t.2.2.1 + 40 → t'.2.2.2 ≤ t.2.2.2 + 800 → Q 1 t' D') : wp S 111 0 [some (qs 0), some (qs 28), some (qs 29), some (qs 30), some (qs 31), some (qs 32), some (qs 33), some (qi x), none, none, none, none] [] t D Q := by
  have hL : LI t (up D 31 5 0) G := by
    obtain ⟨⟨k, hX⟩, hR, hT, h9, hM, hG⟩ := hL0
    refine ⟨⟨k, hX.sd fun b hb => by rw [up_eq, upr_n (by omega)]⟩, hR, ?_, ?_, hM.c5 (by decide), ?_⟩
    · rw [up_eq, upr_n (by decide), upr_n (by decide)]; exact hT
    · rw [up_eq, upr_n (by decide)]; exact h9
    · exact hG.r (by rw [up_eq, upr_n (by decide)]) (fun _ _ => rfl) hR.2.1.2.2.2.1.1
  have e00 : D 28 0 = G 28 14 := hL0.2.2.1.1
  refine lb111_0 (r97 (by decide) fun so s0 s1 => chk_i (by omega) ?_)
  have e00' : up D 31 5 0 28 0 = G 28 14 := hL.2.2.1.1
  generalize up D 31 5 0 = D at *
  obtain ⟨⟨k, hX⟩, hR, hT, h9, hM, hG⟩ := id hL
  have hC := hR.1
  have hV := hR.2.1
  have h13 := hV.1
  have hnf := hT.2.1
  have h34 := hX.1
  refine ite_i (fun c4 => ?_) fun c4 => ?_
  · rw [e00]
    refine r97 (by omega) fun f f0 f1 => ?_
    rw [hM.2.1]
    refine chk_i (by omega) (ite_i (fun c8 => ?_) fun c8 => r111_58 hL c8 ⟨f0, f1⟩ q)
    have ep : pCall G f = (-104, G) := by unfold pCall; rw [if_neg (by omega), if_pos c8]
    refine x77 hX hR (by omega) fun t1 D1 hx => ?_
    rw [ep] at hx ⊢
    have y := hx.2.2
    exact chk_i (show qR (-104) by decide) (ite_i (fun _ => q t1 D1 G (hL.xk hx) (by omega) (by omega)) fun h => absurd rfl h)
  refine lb111_93 (chk_i (by omega) (ite_i (fun c7 => r97 (by decide) fun v v0 v1 => chk_i (by omega) (ite_i (fun _ => r111_123 hL (by decide) q) fun _ => r111_123 hL (by decide) q)) fun c7 => ?_))
  refine lb111_240 (chk_i (by omega) (ite_i (fun c11 => r97 (by decide) fun r r0 r1 => chk_i (by omega) (r97 (by decide) fun v v0 v1 => chk_i (by omega) (chk_i (by omega) ?_))) fun c11 => ?_))
  · -- a register set
    have e1 : (up (up D 31 r v) 31 5 1) 31 r = v := by rw [up_eq, upr_s, ui_n (by omega), up_eq, upr_s, ui_s]
    have hqr : qR (G 42 (9 + r)) := hV.2.2.2.2 _ (by omega) (by omega)
    rw [e1, hM.1 r r0 (by omega)]
    have hX1 : XJ t (up (up D 31 r v) 31 5 1) G k := hX.sd fun b hb => by rw [up_eq, upr_n (by omega), up_eq, upr_n (by omega)]
    have hM1 := (MWrg (v := v) hM (by decide) ⟨r0, by omega⟩).c5 (v := 1) (by decide)
    have ep : pSet G r v = (G 42 (9 + r), upr (sKeep G) 42 (ui (G 42) (9 + r) v)) := by
      unfold pSet
      rw [if_neg (by omega), if_neg (by omega), if_neg (by omega)]
    have hrk := rk_set (r := r) (v := v) hR
    rw [ep] at hrk
    refine x79 hX1 hR (by omega) (by omega) fun t2 D2 hx => ?_
    rw [ep] at hx ⊢
    obtain ⟨hJ, hkr, x1, x2⟩ := hx
    have hM2 : MW 31 32 D2 (ui (G 42) (9 + r) v) := hM1.cg (hkr 31 (by decide) (by decide)) (hkr 32 (by decide) (by decide)) fun _ _ _ => rfl
    have ek : ∀ b, 28 ≤ b → b < 34 → b ≠ 31 → D2 b = D b := fun b h1 h2 n1 => by rw [hkr b h1 h2, up_eq, upr_n n1, up_eq, upr_n n1]
    show chk (qR (G 42 (9 + r))) _
    refine chk_i hqr (chk_i hqr (ite_i (fun _ => ?_) fun h => absurd rfl h))
    refine q t2 D2 _ (hL.new hJ hrk.1 (SC.keep.trans SC.u42) (ek 28 (by decide) (by decide) (by decide)) (ek 30 (by decide) (by decide) (by decide)) (fun i a b => ?_) hM2 ?_) (by omega) (by omega)
    · show D2 29 i = ui (G 42) (9 + r) v i
      rw [ek 29 (by decide) (by decide) (by decide), ui_n (by omega)]; exact h9 i a b
    · show GK 33 D2 (ui (G 42) (9 + r) v)
      exact hG.r (ek 33 (by decide) (by decide) (by decide)) (fun i hi2 => ui_n (by omega)) hV.2.2.2.1.1
  apply lb111_307
  rw [hM.2.1]
  refine chk_i (by omega) (ite_i (fun c => chk_i (by omega) (ite_i (fun c0 => ?_) fun c0 => r111_336 hL c0 q)) fun c => ?_)
  · have ep : pBack G = (-103, G) := by unfold pBack; rw [if_pos c0]
    refine x80 hX hR fun t1 D1 hx => ?_
    rw [ep] at hx ⊢
    have y := hx.2.2
    exact chk_i (show qR (-103) by decide) (ite_i (fun _ => q t1 D1 G (hL.xk hx) (by omega) (by omega)) fun h => absurd rfl h)
  refine lb111_379 (chk_i (by omega) (ite_i (fun c15 => r97 (by decide) fun ty ty0 ty1 => ?_) fun c15 => ?_))
  · -- thrown
    have hK : KX t.2.2.1 t.2.2.1 t (nwT t.1 t.2.2.1 (10, 32), nwP t.2.1 t.2.2.1, (t.2.2.1 + 1, t.2.2.2 + 32)) D (upr D t.2.2.1 (fun _ => 0)) 1 32 := KX.nw
    have hA : AR (nwT t.1 t.2.2.1 (10, 32), nwP t.2.1 t.2.2.1, (t.2.2.1 + 1, t.2.2.2 + 32)) t.2.2.1 32 := AR.nw (by omega)
    have hL1 := hL.kx hK (Nat.le_refl _) (Nat.le_refl _)
    obtain ⟨⟨k1, hX1⟩, -, hT1, h91, hM1, hG1⟩ := id hL1
    refine wp_st fun hqs => ?_
    have h31 := AR.s hqs (a := 31) (n := 6) (by decide) rfl
    have h32 := AR.s hqs (a := 32) (n := 64) (by decide) rfl
    refine wp_cg (L := [some (qs 28), some (qs 29), some (qs 30), some (qr 31), some (qr 32), some (qi ty), some (qr t.2.2.1), none, none, none, none, none, none]) (st := []) rfl rfl ?_
    refine r106 hT1 hC hV h31 h32 hA (by omega) (by omega) h91 hM1 (by omega) fun D1 g1 g2 g3 g4 g5 => ?_
    have hK1 : KX t.2.2.1 t.2.2.1 t (nwT t.1 t.2.2.1 (10, 32), nwP t.2.1 t.2.2.1, (t.2.2.1 + 1, t.2.2.2 + 32)) D D1 1 32 := hK.tr (KX.d (a1 := t.2.2.1) (a2 := t.2.2.1) fun b h _ => g1 b h) (Or.inl rfl) (Or.inl rfl) (by omega) (by omega)
    have hL2 := hL.kx hK1 (Nat.le_refl _) (Nat.le_refl _)
    have hA1 := hA.k1
    have hA2 : ((nwT t.1 t.2.2.1 (10, 32), nwP t.2.1 t.2.2.1, (t.2.2.1 + 1, t.2.2.2 + 32)) : qT).1 t.2.2.1 = (10, 32) := hA.1
    have hq0 : qR (sCat (G 38) (G 40) (G 42) ty).1 := by
      by_cases cc : (sCat (G 38) (G 40) (G 42) ty).1 = -1
      · rw [cc]; decide
      · have := sCat_cp hV ty cc; omega
    rw [g2]
    refine chk_i hA1 (chk_i ⟨by decide, by rw [hA2]; decide⟩ (chk_i hq0 (ite_i (fun cl => ?_) fun cl => ?_)))
    · have cm : (sCat (G 38) (G 40) (G 42) ty).1 = -1 := by
        by_cases cc : (sCat (G 38) (G 40) (G 42) ty).1 = -1
        · exact cc
        · have := sCat_cp hV ty cc; omega
      have ep : pRaise G ty = (-1, G) := by
        unfold pRaise
        rw [if_neg (by omega), if_neg (by omega), if_pos cm]
      obtain ⟨⟨k2, hX2⟩, -, -, -, -, -⟩ := id hL2
      refine x81 hX2 hR (by omega) fun t1 D2 hx => ?_
      rw [ep] at hx ⊢
      have y := hx.2.2
      have y1 : ((nwT t.1 t.2.2.1 (10, 32), nwP t.2.1 t.2.2.1, (t.2.2.1 + 1, t.2.2.2 + 32)) : qT).2.2.1 = t.2.2.1 + 1 := rfl
      have y2 : ((nwT t.1 t.2.2.1 (10, 32), nwP t.2.1 t.2.2.1, (t.2.2.1 + 1, t.2.2.2 + 32)) : qT).2.2.2 = t.2.2.2 + 32 := rfl
      exact chk_i (show qR (-1) by decide) (ite_i (fun _ => q t1 D2 G (hL2.xk hx) (by omega) (by omega)) fun h => absurd rfl h)
    · exact r111_439 hL hK1 rfl hA (by omega) (by omega) g2 g3 g5 q
  · -- a pad of another kind
    apply lb111_483
    rw [e00']
    refine r97 (by omega) fun f f0 f1 => r97 (by decide) fun p p0 p1 => ?_
    obtain ⟨fn, efn⟩ : ∃ fn : Nat, (fn : Int) = f := ⟨f.toNat, by omega⟩
    have hB := hT.2.2 fn (by omega)
    have eB : D 28 (4 + f) = G 38 f := by rw [← efn]; exact hB.1.2
    have hpm := (hC.2.1 f f0 f1).2.2
    rw [eB]
    refine chk_i (by omega) (chk_i (by omega) (chk_i (by omega) (ite_i (fun cp => r111_537 hL ⟨f0, f1⟩ ⟨p0, cp⟩ q) fun cp => ?_)))
    have ep : pChange G f p 0 = (-101, G) := by unfold pChange; rw [if_pos (by omega)]
    refine x82 hX hR (by omega) (by omega) (by decide) fun t1 D1 hx => ?_
    rw [ep] at hx ⊢
    have y := hx.2.2
    exact chk_i (show qR (-101) by decide) (ite_i (fun _ => q t1 D1 G (hL.xk hx) (by omega) (by omega)) fun h => absurd rfl h)
end LAct
