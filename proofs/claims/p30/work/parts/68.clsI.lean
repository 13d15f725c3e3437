/-! ## the class's deeds -/
def XK (t t' : qT) (D D' G' : qD) : Prop := (∃ k, XJ t' D' G' k) ∧ KR D D' ∧ t'.2.2.1 ≤ t.2.2.1 + 24 ∧ t'.2.2.2 ≤ t.2.2.2 + 600
theorem XK.same {t : qT} {D G : qD} {k : Nat} (h : XJ t D G k) : XK t t D D G := ⟨⟨k, h⟩, fun _ _ _ => rfl, by omega, by omega⟩
theorem BG.fin {t t' : qT} {D D' D'' G : qD} {k a : Nat} {N : Int → Int} (h : BG t t' D D' G k a) (ha : a = t.2.2.1) (h34 : 34 ≤ a) (hN : RVd (G 28 14) N) (hF : FR a D' D'') (hM : MR t' D'' a N) : XK t t' D D'' (upr (sKeep G) 42 N) := by
  obtain ⟨⟨h1, h2, h3⟩, h4, h5, h6, h7⟩ := h
  exact ⟨⟨k, h7 N D'' hN hF hM⟩, fun b p q => by rw [hF b (by omega), h6 b p q], by omega, by omega⟩
theorem RVd.kd {nf i v : Int} {N : Int → Int} (h : RVd nf N) (hi : 0 ≤ i ∧ i < 9) (hv : 0 ≤ v ∧ v ≤ 4) : RVd nf (ui N i v) := by
  obtain ⟨h1, h2, h3, h4, h5⟩ := h
  unfold RVd
  rw [ui_n (by omega), ui_n (by omega)]
  refine ⟨h1, fun l p q => ?_, fun x p q => ?_, h4, fun x p q => ?_⟩
  · rw [ui_n (by omega), ui_n (by omega)]; exact h2 l p q
  · have := h3 x p q; unfold ui; split <;> omega
  · have := h5 x p q; unfold ui; split
    · exact ⟨by omega, by omega⟩
    · exact this
theorem sCall_13 {D : qD} {N : Int → Int} {f : Int} (hC : CVd D) (hf : 0 ≤ f ∧ f < D 28 14) (h13 : 0 ≤ N 13 ∧ N 13 < 8) : sCall (D 37) (D 39) N f 13 = N 13 + 1 := by
  unfold sCall
  rw [sSv_n hC hf _ _ _ _ _ (Int.le_refl 0) (by omega), ui_n (by omega)]
  unfold sClr
  rw [cpf_n (by omega), ui_s]
section KI
variable {S : (Nat → Int32) × Nat} {t : qT} {D G : qD} {Q : Int → qT → qD → Prop} {k a : Nat} {N : Int → Int}
theorem c27 (hO : MO t a) (hM : MR t D a N) (h13 : 1 ≤ N 13 ∧ N 13 ≤ 8) (q : Q (N (sAt N 0 + 1)) t D) : wp S 25 0 [some (qr a)] [] t D Q := by
  obtain ⟨o0, oc, o1, o2, o3, o4, o5, o6⟩ := id hO
  have e7 := hM.2.2.1
  have e4 := hM.2.2.2.2.1 (N 13 - 1) (by omega) (by omega)
  rw [show 14 + 8 * (N 13 - 1) + 1 = sAt N 0 + 1 by unfold sAt; omega] at e4
  refine b27_0 (chk_i o0.1 (chk_i (by omega) (ite_i (fun c => chk_i o0.1 (chk_i o0.1 (chk_i o4.1 (chk_i (by omega) ?_)))) fun c => absurd c (by omega))))
  rw [e7, e4]; exact q
theorem tf2 {c : Prop} [Decidable c] {A B : Prop} (h1 : c → A) (h2 : ¬ c → B) : chk (qR (if c then (0 : Int) else 1)) (if (if c then (0 : Int) else 1) = 0 then A else B) := by
  by_cases h : c
  · rw [if_pos h]; exact chk_i (by omega) (by rw [if_pos rfl]; exact h1 h)
  · rw [if_neg h]; exact chk_i (by omega) (by rw [if_neg (by decide)]; exact h2 h)
theorem x77 {f : Int} (hX : XJ t D G k) (hG : RVs G) (hf : qR f) (q : ∀ t' D', XK t t' D D' (pCall G f).2 → Q (pCall G f).1 t' D') : wp S 72 0 [some (qs 0), some (qi f)] [] t D Q := by
  have hq := hX.q
  have h13 := hG.2.1.1
  have hm := hX.2.2.2.1
  have e7 := hm.2.2.1.2.2.1
  unfold pCall at q
  refine b77_0 (c99 hq.1 hG.1 hf (tf1 (fun c => chk_i hm.1.1.1 (chk_i (by omega) (ite_i (fun c2 => c101 hX hG fun t' D' hB => ?_) fun c2 => ?_))) fun c => ?_))
  · rw [if_neg (fun z => z c), if_neg (by omega)] at q
    obtain ⟨⟨n1, n2, n3⟩, ⟨hO, hL, hk, hM⟩, ⟨hCB, hCR⟩, hKR, -⟩ := id hB
    rw [n3]
    refine chk_i hO.1.1 (c28 hO hL (by rw [hk]; exact hCB) hG.1 (by rw [hk]; exact hCR) hM (by omega) c fun D'' hM' hF => chk_i ?_ ?_)
    · rw [n3]; exact hO.1.1
    · rw [n3]
      rw [if_pos (by omega)] at hM'
      rw [hM'.2.2.1, sCall_13 hG.1 c (by omega)]
      exact q _ _ (hB.fin rfl hX.1 (hG.2.1.call hG.1 c (by omega)) hF hM')
  · rw [if_neg (fun z => z c), if_pos (by omega)] at q
    exact q _ _ (XK.same hX)
  · rw [if_pos c] at q
    exact q _ _ (XK.same hX)
theorem x79 {r v : Int} (hX : XJ t D G k) (hG : RVs G) (hr : qR r) (hv : qR v) (q : ∀ t' D', XK t t' D D' (pSet G r v).2 → Q (pSet G r v).1 t' D') : wp S 74 0 [some (qs 0), some (qi r), some (qi v), none] [] t D Q := by
  have hq := hX.q
  have h1 := hG.1.1
  unfold pSet at q
  refine b79_0 (c102 hr (by omega) (tf1 (fun c => c102 hv (by omega) (tf1 (fun c2 => c98 hq.1 hG.1 (tf2 (fun c3 => ?_) fun c3 => c101 hX hG fun t' D' hB => ?_)) fun c2 => ?_)) fun c => ?_))
  · rw [if_neg (fun z => z ⟨c.1, by omega⟩), if_neg (fun z => z ⟨c2.1, by omega⟩), if_pos c3] at q
    exact q _ _ (XK.same hX)
  · have c4 := c3
    rw [if_neg (fun z => z ⟨c.1, by omega⟩), if_neg (fun z => z ⟨c2.1, by omega⟩), if_neg c4] at q
    obtain ⟨⟨n1, n2, n3⟩, ⟨hO, hL, hk, hM⟩, ⟨hCB, hCR⟩, hKR, -⟩ := id hB
    obtain ⟨o0, oc, o1, o2, -⟩ := id hO
    rw [n3]
    refine chk_i o0.1 (chk_i o2.1 (chk_i (by omega) (chk_i o0.1 (chk_i o2.1 (chk_i (by omega) ?_)))))
    rw [hM.2.1 r c.1 c.2]
    exact q _ _ (hB.fin rfl hX.1 (hG.2.1.rg c (by omega)) (FR.up (by rw [hL.2.1]; omega)) (hM.w_rg hL c))
  · rw [if_neg (fun z => z ⟨c.1, by omega⟩), if_pos (by omega)] at q
    exact q _ _ (XK.same hX)
  · rw [if_pos (by omega)] at q
    exact q _ _ (XK.same hX)
theorem x80 (hX : XJ t D G k) (hG : RVs G) (q : ∀ t' D', XK t t' D D' (pBack G).2 → Q (pBack G).1 t' D') : wp S 75 0 [some (qs 0)] [] t D Q := by
  have h13 := hG.2.1.1
  have hm := hX.2.2.2.1
  have e7 := hm.2.2.1.2.2.1
  unfold pBack at q
  refine b80_0 (chk_i hm.1.1.1 (chk_i (by omega) (ite_i (fun c => ?_) fun c => c101 hX hG fun t' D' hB => ?_)))
  · rw [if_pos (by omega)] at q
    exact q _ _ (XK.same hX)
  · rw [if_neg (by omega)] at q
    obtain ⟨⟨n1, n2, n3⟩, ⟨hO, hL, hk, hM⟩, ⟨hCB, hCR⟩, hKR, -⟩ := id hB
    rw [n3]
    refine chk_i hO.1.1 (c31 hO hL (by rw [hk]; exact hCB) hG.1 hG.2.1 (by omega) (by rw [hk]; exact hCR) hM fun D'' hM' hF => chk_i ?_ ?_)
    · rw [n3]; exact hO.1.1
    · rw [n3, hM'.2.2.1]
      have e : sBack (G 34) (G 42) 13 = G 42 13 - 1 := ui_s
      rw [e]
      exact q _ _ (hB.fin rfl hX.1 (hG.2.1.back hG.1 (by omega)) hF hM')
theorem x81 {ty : Int} (hX : XJ t D G k) (hG : RVs G) (ht : qR ty) (q : ∀ t' D', XK t t' D D' (pRaise G ty).2 → Q (pRaise G ty).1 t' D') : wp S 76 0 [some (qs 0), some (qi ty), none] [] t D Q := by
  have hq := hX.q
  have h13 := hG.2.1.1
  have hm := hX.2.2.2.1
  have hr := sCat_r (G 38) (G 40) (G 42) ty
  unfold pRaise at q
  refine b81_0 (c102 ht (by omega) (tf1 (fun c => c98 hq.1 hG.1 (tf2 (fun c3 => ?_) fun c3 => chk_i hm.1.1.1 (c34 hm.1 hm.2.2.1 hq.1.2.2 hG.1 hG.2.1 (by omega) ?_))) fun c => ?_))
  · rw [if_neg (fun z => z ⟨c.1, by omega⟩), if_pos c3] at q
    exact q _ _ (XK.same hX)
  · have c4 := c3
    rw [if_neg (fun z => z ⟨c.1, by omega⟩), if_neg c4] at q
    unfold sCat3
    by_cases c5 : (sCat (G 38) (G 40) (G 42) ty).1 = -1
    · rw [if_pos c5] at q ⊢
      refine chk_i (by omega) ?_
      rw [if_pos rfl]
      exact q _ _ (XK.same hX)
    · rw [if_neg c5] at q ⊢
      refine chk_i (by omega) ?_
      rw [if_neg (by omega)]
      refine c101 hX hG fun t' D' hB => ?_
      obtain ⟨⟨n1, n2, n3⟩, ⟨hO, hL, hk, hM⟩, ⟨hCB, hCR⟩, hKR, -⟩ := id hB
      rw [n3]
      refine chk_i hO.1.1 (c37 hO hL (by rw [hk]; exact hCB) hG.1 (by omega) hG.2.1 (by omega) (by omega) (by rw [hk]; exact hCR) hM fun D'' hM' hF => chk_i (by omega) ?_)
      rw [show (3 * (sCat (G 38) (G 40) (G 42) ty).1 + (sCat (G 38) (G 40) (G 42) ty).2.1) / 3 = (sCat (G 38) (G 40) (G 42) ty).1 by omega]
      exact q _ _ (hB.fin rfl hX.1 (sRaise_r hG.1 hG.2.1 (by omega) (by omega)).1 hF hM')
  · rw [if_pos (by omega)] at q
    exact q _ _ (XK.same hX)
theorem x82 {f p kd : Int} (hX : XJ t D G k) (hG : RVs G) (hf : qR f) (hp : qR p) (hk : qR kd) (q : ∀ t' D', XK t t' D D' (pChange G f p kd).2 → Q (pChange G f p kd).1 t' D') : wp S 77 0 [some (qs 0), some (qi f), some (qi p), some (qi kd), none] [] t D Q := by
  have hq := hX.q
  have h1 := hG.1.1
  unfold pChange at q
  refine b82_0 (c100 hq.1 hG.1 hf hp (tf1 (fun c => c102 hk (by omega) (tf1 (fun c2 => c101 hX hG fun t' D' hB => ?_) fun c2 => ?_)) fun c => ?_))
  · have h2 := hG.1.2.1 f c.1 c.2.1
    rw [if_neg (fun z => z c), if_neg (fun z => z ⟨c2.1, by omega⟩)] at q
    obtain ⟨⟨n1, n2, n3⟩, ⟨hO, hL, hkk, hM⟩, ⟨hCB, hCR⟩, hKR, -⟩ := id hB
    obtain ⟨o0, oc, o1, o2, -⟩ := id hO
    rw [n3]
    refine chk_i o0.1 (b103_0 (chk_i o1.1 (chk_i (by omega) (chk_i (by rw [n3]; exact o0.1) (b103_0 ?_)))))
    rw [n3]
    refine chk_i o1.1 (chk_i (by omega) ?_)
    rw [hM.1 (f * 3 + p) (by omega) (by omega)]
    have e : f * 3 + p = 3 * f + p := by omega
    have := hB.fin rfl hX.1 (hG.2.1.kd (i := f * 3 + p) (v := kd) (by omega) (by omega)) (FR.up (i := f * 3 + p) (v := kd) (b := t'.2.1 t.2.2.1 1) (by rw [hL.1]; omega)) (hM.w_kd hL (by omega))
    rw [e] at this ⊢
    exact q _ _ this
  · rw [if_neg (fun z => z c), if_pos (by omega)] at q
    exact q _ _ (XK.same hX)
  · rw [if_pos c] at q
    exact q _ _ (XK.same hX)
end KI
