/-! ## drawn once more: what was there stays (the rows of 72, with that) -/
section KMk
variable {S : (Nat → Int32) × Nat} {t : qT} {D G : qD} {Q : Int → qT → qD → Prop} {k a : Nat} {N : Int → Int}
theorem x90k {n s w : Int} (hX : XJ t D G k) (hG : RVs G) (hn : qR n) (hs : qR s) (hw : qR w) (q : ∀ t' D', XK t t' D D' G → KP t.2.2.1 t t' D D' → t.2.2.1 ≤ t'.2.2.1 → Q (vDrawn G n s w) t' D') : wp S 82 0 [some (qs 0), some (qi n), some (qi s), some (qi w), none, none, none, none] [] t D Q := by
  have hq := hX.q
  have hX' := hX
  obtain ⟨hn49, hP, hC, hc, hH, hS, h35, hE⟩ := hX
  have h1 := hG.1.1
  unfold vDrawn at q
  refine b90_0 (chk_i hn (ite_i (fun c => ?_) fun c => chk_i hn (ite_i (fun c1 => ?_) fun c1 => chk_i hs (ite_i (fun c2 => ?_) fun c2 => c102 hw (by omega) (tf1 (fun c3 => c98 hq.1 hG.1 (tf2 (fun c4 => ?_) fun c4 => chk_i (by rw [nwT_s]; decide) ?_)) fun c3 => ?_)))))
  · rw [if_pos (by omega)] at q; exact q _ _ (XK.same hX') KP.rfl' (Nat.le_refl _)
  · rw [if_pos (by omega)] at q; exact q _ _ (XK.same hX') KP.rfl' (Nat.le_refl _)
  · rw [if_neg (fun z => z ⟨by omega, by omega⟩), if_pos c2] at q; exact q _ _ (XK.same hX') KP.rfl' (Nat.le_refl _)
  · rw [if_neg (fun z => z ⟨by omega, by omega⟩), if_neg c2, if_neg (fun z => z ⟨by omega, by omega⟩), if_pos c4] at q; exact q _ _ (XK.same hX') KP.rfl' (Nat.le_refl _)
  · rw [if_neg (fun z => z ⟨by omega, by omega⟩), if_neg c2, if_neg (fun z => z ⟨by omega, by omega⟩), if_neg c4] at q
    have k1 : KP t.2.2.1 t (nwT t.1 t.2.2.1 (3, 0), nwP t.2.1 t.2.2.1, (t.2.2.1 + 1, t.2.2.2 + 9)) D (upr D t.2.2.1 (fun _ => 0)) := KP.nw (Nat.le_refl _)
    have u1a : ((nwT t.1 t.2.2.1 (3, 0)) t.2.2.1).1 = 3 := by rw [nwT_s]
    generalize hu : ((nwT t.1 t.2.2.1 (3, 0), nwP t.2.1 t.2.2.1, (t.2.2.1 + 1, t.2.2.2 + 9)) : qT) = u at k1
    have un : u.2.2.1 = t.2.2.1 + 1 ∧ u.2.2.2 = t.2.2.2 + 9 := by rw [← hu]; exact ⟨rfl, rfl⟩
    have e1 : nwT t.1 t.2.2.1 (3, 0) = u.1 := by rw [← hu]
    have e2 : nwP t.2.1 t.2.2.1 = u.2.1 := by rw [← hu]
    rw [e1] at u1a
    rw [e2, (k1 0 (by omega)).2.1]
    generalize hl : t.2.1 0 5 = l at hc
    have hlt := hc.1.1.2.1
    have ki1 := KI.of k1 (by omega)
    obtain ⟨o0, oc, o1, o2, o3, o4, o5, o6⟩ := id hc.1
    have pl := (k1 l hlt).2.1
    refine c25 (N := G 42) hn49 un.1 u1a (hc.1.ki ki1) (by omega) (hc.2.2.1.ki hc.1 ki1) ?_ ?_ ?_
    · rw [pl]
      exact ⟨o1.2.2.1, o2.2.2.1, o3.2.2.1, o4.2.2.1, o5.2.2.1, o6.2.2.1⟩
    · rw [pl, hc.2.1]
      have := hC.1.cb
      unfold CB at this ⊢
      rw [(k1 k hC.1.1.2.1).2.1]; exact this
    · intro t2 D2 n1 n2 n3 n4 n5 n6 n7 n8 n9
      rw [pl, hc.2.1] at n7
      rw [n7] at n9
      have k2 : KP t.2.2.1 t t2 D D2 := k1.trans n3
      rw [n1]
      refine chk_i (by rw [nwT_s]; decide) (b15_0 (chk_i ⟨by show (nwT t2.1 (t.2.2.1 + 7) (1, 0) (t.2.2.1 + 7)).1 ≠ 8; rw [nwT_s]; decide, by decide⟩ (chk_i hs (chk_i (by show (nwT t2.1 (t.2.2.1 + 7) (1, 0) (t.2.2.1 + 7)).1 = 1; rw [nwT_s]) ?_))))
      have k3 : KP t2.2.2.1 t2 (nwT t2.1 t2.2.2.1 (1, 0), nwP t2.2.1 t2.2.2.1, (t2.2.2.1 + 1, t2.2.2.2 + 1)) D2 (up (upr D2 t2.2.2.1 (fun _ => 0)) t2.2.2.1 0 s) := (KP.nw (Nat.le_refl _)).trans (KP.d fun b hb => by rw [up_eq]; exact upr_n (by omega))
      have uT : ((nwT t2.1 t2.2.2.1 (1, 0)) t2.2.2.1).1 = 1 := by rw [nwT_s]
      have uD : up (upr D2 t2.2.2.1 (fun _ => 0)) t2.2.2.1 0 s t2.2.2.1 0 = s := by rw [up_eq, upr_s, ui_s]
      rw [n1] at k3 uT uD
      generalize hv : ((nwT t2.1 (t.2.2.1 + 7) (1, 0), nwP t2.2.1 (t.2.2.1 + 7), (t.2.2.1 + 7 + 1, t2.2.2.2 + 1)) : qT) = v at k3
      have vn : v.2.2.1 = t.2.2.1 + 8 ∧ v.2.2.2 = t2.2.2.2 + 1 := by rw [← hv]; exact ⟨rfl, rfl⟩
      have vT : (v.1 (t.2.2.1 + 7)).1 = 1 := by rw [← hv]; exact uT
      generalize up (upr D2 (t.2.2.1 + 7) (fun _ => 0)) (t.2.2.1 + 7) 0 s = D3 at k3 uD ⊢
      have ki3 : KI t2 v D2 D3 := ⟨by omega, fun b hb => k3 b (by have := hb.1; omega)⟩
      have va : v.2.1 t.2.2.1 = t2.2.1 t.2.2.1 := (k3 _ (by omega)).2.1
      have k4 : KP t.2.2.1 t v D D3 := k2.trans fun b hb => k3 b (by omega)
      have hvO := n5.ki ki3
      have hvL : ML v t.2.2.1 := by unfold ML; rw [va]; exact n6
      have hv0 : v.2.1 t.2.2.1 0 = k := by rw [va]; exact n7
      have hCO : CO t2 k := by rw [← n7]; exact n5.2.1
      have hvB : CB v (v.2.1 t.2.2.1 0) t.2.2.1 := by
        rw [hv0]; unfold CB; rw [(k3 k (by have := n9.1; omega)).2.1]; exact n9
      refine c90_65 (G := G) hvO hvL hvB hG.1 (by omega) vT hn (by omega) n.toNat 0 0 s (G 42) D3 (by omega) (Int.le_refl _) ⟨Int.le_refl _, Int.le_refl _⟩ hG.2.1 ⟨n8.ki n5 ki3, by rw [hv0]; exact hC.2.ki hC.1 (KI.of k4 (by omega)), uD⟩ ⟨by omega, by omega⟩ fun D4 hF => ?_
      have k5 : KP t.2.2.1 t v D D4 := k4.trans (KP.d fun b hb => hF b (by omega))
      have d5 : ∀ b, b < t.2.2.1 → D4 b = D b := fun b hb => (k5 b hb).2.2
      refine q v D4 ⟨⟨k, hX'.cg (KI.of k5 (by omega)) (by rw [(k5 0 (by omega)).2.1]) (by rw [(k5 0 (by omega)).2.1]) (k5 4 (by omega)).2.1 (k5 6 (by omega)).2.1 (by rw [d5 0 (by omega)]) (d5 3 (by omega)) (d5 5 (by omega)) ⟨d5 11 (by omega), d5 12 (by omega), d5 13 (by omega), d5 14 (by omega)⟩ (fun _ _ _ _ => rfl) (fun _ _ _ _ _ _ => rfl) ?_ ?_⟩, fun b x y => d5 b (by omega), by omega, by omega⟩ k5 (by omega)
      · unfold PGr; rw [d5 1 (by omega), d5 2 (by omega)]; exact hP.1
      · exact hS.d ⟨d5 7 (by omega), d5 8 (by omega), d5 9 (by omega), d5 10 (by omega)⟩ hG.2.2.2.1.2 fun _ _ _ => rfl
  · rw [if_neg (fun z => z ⟨by omega, by omega⟩), if_neg c2, if_pos (by omega)] at q; exact q _ _ (XK.same hX') KP.rfl' (Nat.le_refl _)
end KMk
