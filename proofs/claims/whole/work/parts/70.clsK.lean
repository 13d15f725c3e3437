/-! ## the class's undo, image, restore -/
theorem HR.pop {t t' : qT} {k h p : Nat} {D D' : qD} {U : Int → Int} {nf m : Int} (H : HR t D k nf h p U m) (hm : 1 ≤ m) (hk : KI t t' D D') (hP : t'.2.1 p = t.2.1 p) (h1 : D' h 1 = (D h 1 + 30 - 1) % 30) (h2 : D' h 2 = m - 1) : HR t' D' k nf h p U (m - 1) ∧ HC t D k nf (t.2.1 p ((D h 1 + 30 - 1) % 30)) (fun i => U (110 * (m - 1) + i)) := by
  obtain ⟨g1, g2, g3, g4, g5⟩ := H
  refine ⟨⟨h2, by omega, by omega, fun i a b => ?_, fun j a b => ?_⟩, ?_⟩
  · rw [hP]
    refine (g4 i a b).imp id fun z => ?_
    rw [(hk.2 _ z.2).1]
    exact ⟨z.1, z.2.ki hk⟩
  · rw [hP, h1]
    have := (g5 j a (by omega)).ki hk
    rw [show (D h 1 + 30 - m + j) % 30 = ((D h 1 + 30 - 1) % 30 + 30 - (m - 1) + j) % 30 by omega] at this
    exact this
  · have := g5 (m - 1) (by omega) (by omega)
    rw [show (D h 1 + 30 - m + (m - 1)) % 30 = (D h 1 + 30 - 1) % 30 by omega] at this
    exact this
theorem HR.cp {t t' : qT} {k h p h' p' : Nat} {D D' : qD} {U V : Int → Int} {nf m : Int} (H : HR t D k nf h p U m) (hk : KI t t' D D') (hP : ∀ i, 0 ≤ i → i < 30 → t'.2.1 p' i = t.2.1 p i) (h1 : D' h' 1 = D h 1) (h2 : D' h' 2 = D h 2) (hU : ∀ i, 0 ≤ i → i < 110 * m → V i = U i) : HR t' D' k nf h' p' V m := by
  obtain ⟨g1, g2, g3, g4, g5⟩ := H
  unfold HR
  rw [h1, h2]
  refine ⟨g1, g2, g3, fun i a b => ?_, fun j a b => ?_⟩
  · rw [hP i a b]
    refine (g4 i a b).imp id fun z => ?_
    rw [(hk.2 _ z.2).1]
    exact ⟨z.1, z.2.ki hk⟩
  · rw [hP _ (by omega) (by omega)]
    exact ((g5 j a b).ki hk).cg fun i c d => hU _ (by omega) (by omega)
theorem SRl.cp {D D' : qD} {s x y z s' x' y' z' : Nat} {sg sh : Int → Int} {m : Int} (h : SRl D s x y z sg m) (hm : m ≤ 6) (e : D' s' 3 = D s 3) (f : ∀ i, 0 ≤ i → i < 6 → D' x' i = D x i ∧ D' y' i = D y i ∧ D' z' i = D z i) (hg : ∀ i, 0 ≤ i → i < 24 → sh i = sg i) : SRl D' s' x' y' z' sh m := by
  unfold SRl
  rw [e]
  refine ⟨h.1, fun i a b => ?_⟩
  rw [hg (4 * i) (by omega) (by omega), hg (4 * i + 1) (by omega) (by omega), hg (4 * i + 2) (by omega) (by omega), hg (4 * i + 3) (by omega) (by omega), (f i a (by omega)).1, (f i a (by omega)).2.1, (f i a (by omega)).2.2]
  exact h.2 i a b
section KK
variable {S : (Nat → Int32) × Nat} {t : qT} {D G : qD} {Q : Int → qT → qD → Prop} {k a : Nat} {N : Int → Int}
theorem x83 (hX : XJ t D G k) (hG : RVs G) (q : ∀ t' D', XK t t' D D' (pUndo G).2 → RVs (pUndo G).2 → Q (pUndo G).1 t' D') : wp S 83 0 [some (qs 0)] [] t D Q := by
  have hX' := hX
  obtain ⟨hn, hP, hC, hc, hH, hS, h35, hE⟩ := hX
  have h27 := hG.2.2.1
  have e2 := hH.1
  have hs := hH.2.1
  unfold pUndo at q
  refine b83_0 (chk_i (by omega) (ite_i (fun c => ?_) fun c => b22_0 (chk_i (by omega) (ite_i (fun z => absurd z c) fun _ => chk_i (by omega) (chk_i (by omega) ?_)))))
  · rw [if_pos (by omega)] at q
    exact q _ _ (XK.same hX') hG
  · rw [if_neg (by omega)] at q
    rw [show ((t.2.1 4 ((D 3 1 + 30 - 1) % 30) : Nat) : Int).toNat = t.2.1 4 ((D 3 1 + 30 - 1) % 30) from rfl]
    generalize hD : up (up D 3 1 ((D 3 1 + 30 - 1) % 30)) 3 2 (D 3 2 - 1) = D'
    have dn : ∀ b, b ≠ 3 → D' b = D b := fun b hb => by rw [← hD, up_eq, up_eq, upr_n hb, upr_n hb]
    have d1 : D' 3 1 = (D 3 1 + 30 - 1) % 30 := by rw [← hD]; simp only [up_eq, upr_s]; rw [ui_n (by decide), ui_s]
    have d2 : D' 3 2 = G 28 27 - 1 := by rw [← hD]; simp only [up_eq, upr_s]; rw [ui_s, e2]
    generalize hv : ((t.1, upP t.2.1 0 5 (t.2.1 4 ((D 3 1 + 30 - 1) % 30)), t.2.2) : qT) = v
    have v1 : v.1 = t.1 := by rw [← hv]
    have vn : v.2.2 = t.2.2 := by rw [← hv]
    have v2 : ∀ b, b ≠ 0 → v.2.1 b = t.2.1 b := fun b hb => by rw [← hv]; funext j; exact if_neg (fun z => hb z.1)
    have v05 : v.2.1 0 5 = t.2.1 4 ((D 3 1 + 30 - 1) % 30) := by
      rw [← hv]
      show (if (0 : Nat) = 0 ∧ (5 : Int) = 5 then t.2.1 4 ((D 3 1 + 30 - 1) % 30) else t.2.1 0 5) = _
      exact if_pos ⟨rfl, rfl⟩
    have v06 : v.2.1 0 6 = t.2.1 0 6 := by
      rw [← hv]
      show (if (0 : Nat) = 0 ∧ (6 : Int) = 5 then t.2.1 4 ((D 3 1 + 30 - 1) % 30) else t.2.1 0 6) = _
      exact if_neg (fun z => absurd z.2 (by decide))
    have hk : KI t v D D' := ⟨by rw [vn]; exact Nat.le_refl _, fun b hb => ⟨by rw [v1], v2 b (by have := hb.2; omega), dn b (by have := hb.2; omega)⟩⟩
    have hp := hH.pop (by omega) hk (v2 4 (by decide)) d1 d2
    have g28 : ∀ i, i ≠ 27 → sPop G 28 i = G 28 i := fun i hi => by unfold sPop; rw [upr_n (by decide), upr_s, ui_n hi]
    have gn : ∀ b, b ≠ 28 → b ≠ 42 → sPop G b = G b := fun b h1 h2 => by unfold sPop; rw [upr_n h2, upr_n h1]
    have g27 : sPop G 28 27 = G 28 27 - 1 := by unfold sPop; rw [upr_n (by decide), upr_s, ui_s]
    have g42 : ∀ i, 0 ≤ i → i < 110 → sPop G 42 i = G 43 (110 * (G 28 27 - 1) + i) := fun i a b => by unfold sPop; rw [upr_s, cpf_y ⟨a, b⟩]
    have gs : SC G (sPop G) := ⟨g28 14 (by decide), gn 34 (by decide) (by decide), gn 35 (by decide) (by decide), gn 36 (by decide) (by decide), gn 37 (by decide) (by decide), gn 38 (by decide) (by decide), gn 39 (by decide) (by decide), gn 40 (by decide) (by decide)⟩
    dsimp only at q
    rw [d2]
    have hc' := hp.2.cg g42
    generalize sPop G = G' at q g28 gn g27 g42 gs hc'
    refine q v D' ⟨⟨k, by rw [vn]; exact hn, ⟨?_, ?_⟩, ⟨hC.1.ki hk, ?_⟩, ?_, ?_, ?_, ?_, ?_⟩, fun b h1 h2 => dn b (by omega), by rw [vn]; omega, by rw [vn]; omega⟩ ⟨hG.1.sc gs, ?_, by rw [g27]; omega, by rw [g28 31 (by decide)]; exact hG.2.2.2.1, by rw [g28 1 (by decide)]; exact hG.2.2.2.2.1, by rw [g28 15 (by decide)]; exact hG.2.2.2.2.2.1, by rw [gn 44 (by decide) (by decide)]; exact hG.2.2.2.2.2.2.1, by rw [gn 29 (by decide) (by decide), g28 1 (by decide)]; exact hG.2.2.2.2.2.2.2⟩
    · unfold PGr
      rw [dn 1 (by decide), dn 2 (by decide), g28 1 (by decide), gn 29 (by decide) (by decide)]; exact hP.1
    · rw [dn 0 (by decide), g28 15 (by decide)]; exact hP.2
    · have := hC.2.ki hC.1 hk
      obtain ⟨s0, s1, s2, s3, s4, s5, s6, s7⟩ := gs
      unfold CR
      rw [s0, s1, s2, s3, s4, s5, s6, s7]
      exact this
    · rw [v05, g28 14 (by decide)]
      exact hc'.ki hk
    · rw [g28 14 (by decide), g27, gn 43 (by decide) (by decide)]; exact hp.1
    · rw [g28 31 (by decide), gn 44 (by decide) (by decide)]
      exact hS.d ⟨dn 7 (by decide), dn 8 (by decide), dn 9 (by decide), dn 10 (by decide)⟩ hG.2.2.2.1.2 fun _ _ _ => rfl
    · rw [g28 35 (by decide), g28 15 (by decide)]; exact h35
    · exact hE.cg hk v06 (v2 6 (by decide)) (dn 5 (by decide)) ⟨dn 11 (by decide), dn 12 (by decide), dn 13 (by decide), dn 14 (by decide)⟩ ⟨g28 14 (by decide), g28 15 (by decide), g28 35 (by decide), g28 36 (by decide), g28 37 (by decide), gn 46 (by decide) (by decide), gn 47 (by decide) (by decide), gn 48 (by decide) (by decide)⟩
    · rw [g28 14 (by decide)]; exact hc'.2.2.2
theorem c23k (h : ∀ i, 0 ≤ i → i < 30 → t.2.1 4 i = 0 ∨ (t.1 (t.2.1 4 i)).1 = 3) (q : ∀ t', t'.1 = t.1 → t'.2.2 = t.2.2 → (∀ b, b ≠ 6 → t'.2.1 b = t.2.1 b) → (∀ i, 0 ≤ i → i < 30 → t'.2.1 6 i = t.2.1 4 i) → Q 0 t' (up (up D 5 1 (D 3 1)) 5 2 (D 3 2))) : wp S 23 0 [some (qs 5), some (qs 3), none] [] t D Q := by
  have lp : ∀ (n : Nat) (j : Int) (u : qT), j + n = 30 → 0 ≤ j → u.1 = t.1 → u.2.2 = t.2.2 → (∀ b, b ≠ 6 → u.2.1 b = t.2.1 b) → (∀ i, 0 ≤ i → i < j → u.2.1 6 i = t.2.1 4 i) → wp S 23 2 [some (qs 5), some (qs 3), some (qi j)] [] u D Q := by
    intro n
    induction n with
    | zero =>
      intro j u hj h0 u1 un u2 u6
      exact b23k_2 (chk_i (by omega) (ite_i (fun c => absurd c (by omega)) fun _ => q u u1 un u2 fun i a b => u6 i a (by omega)))
    | succ n ih =>
      intro j u hj h0 u1 un u2 u6
      refine b23k_2 (chk_i (by omega) (ite_i (fun c => chk_i (by omega) (chk_i ?_ (chk_i (by omega) ?_))) fun c => absurd c (by omega)))
      · rw [u1, u2 4 (by decide)]; exact h j h0 (by omega)
      · refine ih (j + 1) _ (by omega) (by omega) u1 un (fun b hb => ?_) fun i a b => ?_
        · funext y
          exact (if_neg (fun z => hb z.1)).trans (by rw [u2 b hb])
        · show (if (6 : Nat) = 6 ∧ i = j then u.2.1 4 j else u.2.1 6 i) = _
          by_cases c : i = j
          · rw [if_pos ⟨rfl, c⟩, u2 4 (by decide), c]
          · rw [if_neg (fun z => c z.2)]; exact u6 i a (by omega)
  exact b23k_0 (lp 30 0 t rfl (Int.le_refl _) rfl rfl (fun _ _ => rfl) fun i a b => absurd a (by omega))
theorem c23h (h : ∀ i, 0 ≤ i → i < 30 → t.2.1 6 i = 0 ∨ (t.1 (t.2.1 6 i)).1 = 3) (q : ∀ t', t'.1 = t.1 → t'.2.2 = t.2.2 → (∀ b, b ≠ 4 → t'.2.1 b = t.2.1 b) → (∀ i, 0 ≤ i → i < 30 → t'.2.1 4 i = t.2.1 6 i) → Q 0 t' (up (up D 3 1 (D 5 1)) 3 2 (D 5 2))) : wp S 23 0 [some (qs 3), some (qs 5), none] [] t D Q := by
  have lp : ∀ (n : Nat) (j : Int) (u : qT), j + n = 30 → 0 ≤ j → u.1 = t.1 → u.2.2 = t.2.2 → (∀ b, b ≠ 4 → u.2.1 b = t.2.1 b) → (∀ i, 0 ≤ i → i < j → u.2.1 4 i = t.2.1 6 i) → wp S 23 2 [some (qs 3), some (qs 5), some (qi j)] [] u D Q := by
    intro n
    induction n with
    | zero =>
      intro j u hj h0 u1 un u2 u6
      exact b23h_2 (chk_i (by omega) (ite_i (fun c => absurd c (by omega)) fun _ => q u u1 un u2 fun i a b => u6 i a (by omega)))
    | succ n ih =>
      intro j u hj h0 u1 un u2 u6
      refine b23h_2 (chk_i (by omega) (ite_i (fun c => chk_i (by omega) (chk_i ?_ (chk_i (by omega) ?_))) fun c => absurd c (by omega)))
      · rw [u1, u2 6 (by decide)]; exact h j h0 (by omega)
      · refine ih (j + 1) _ (by omega) (by omega) u1 un (fun b hb => ?_) fun i a b => ?_
        · funext y
          exact (if_neg (fun z => hb z.1)).trans (by rw [u2 b hb])
        · show (if (4 : Nat) = 4 ∧ i = j then u.2.1 6 j else u.2.1 4 i) = _
          by_cases c : i = j
          · rw [if_pos ⟨rfl, c⟩, u2 6 (by decide), c]
          · rw [if_neg (fun z => c z.2)]; exact u6 i a (by omega)
  exact b23h_0 (lp 30 0 t rfl (Int.le_refl _) rfl rfl (fun _ _ => rfl) fun i a b => absurd a (by omega))
theorem q_cp6 {f g : Int → Int} {i : Int} (a : 0 ≤ i) (b : i < 6) : q_cp f g 0 0 6 i = f i := by
  unfold q_cp
  rw [if_pos (by omega), show (0 : Int) + (i - 0) = i by omega]
theorem c66z (q : ∀ D', (∀ b, b ≠ 11 → b ≠ 12 → b ≠ 13 → b ≠ 14 → D' b = D b) → D' 11 3 = D 7 3 → (∀ i, 0 ≤ i → i < 6 → D' 12 i = D 8 i ∧ D' 13 i = D 9 i ∧ D' 14 i = D 10 i) → Q 0 t D') : wp S 66 0 [some (qs 11), some (qs 7)] [] t D Q := by
  refine b66z_0 (q _ (fun b h1 h2 h3 h4 => ?_) ?_ fun i a b => ⟨?_, ?_, ?_⟩)
  · rw [up_eq, upr_n h1, upr_n h4, upr_n h3, upr_n h2]
  · rw [up_eq, upr_s, ui_s, upr_n (by decide), upr_n (by decide), upr_n (by decide)]
  · rw [up_eq, upr_n (by decide), upr_n (by decide), upr_n (by decide), upr_s, q_cp6 a b]
  · rw [up_eq, upr_n (by decide), upr_n (by decide), upr_s, q_cp6 a b, upr_n (by decide)]
  · rw [up_eq, upr_n (by decide), upr_s, q_cp6 a b, upr_n (by decide), upr_n (by decide)]
theorem c66s (q : ∀ D', (∀ b, b ≠ 7 → b ≠ 8 → b ≠ 9 → b ≠ 10 → D' b = D b) → D' 7 3 = D 11 3 → (∀ i, 0 ≤ i → i < 6 → D' 8 i = D 12 i ∧ D' 9 i = D 13 i ∧ D' 10 i = D 14 i) → Q 0 t D') : wp S 66 0 [some (qs 7), some (qs 11)] [] t D Q := by
  refine b66s_0 (q _ (fun b h1 h2 h3 h4 => ?_) ?_ fun i a b => ⟨?_, ?_, ?_⟩)
  · rw [up_eq, upr_n h1, upr_n h4, upr_n h3, upr_n h2]
  · rw [up_eq, upr_s, ui_s, upr_n (by decide), upr_n (by decide), upr_n (by decide)]
  · rw [up_eq, upr_n (by decide), upr_n (by decide), upr_n (by decide), upr_s, q_cp6 a b]
  · rw [up_eq, upr_n (by decide), upr_n (by decide), upr_s, q_cp6 a b, upr_n (by decide)]
  · rw [up_eq, upr_n (by decide), upr_s, q_cp6 a b, upr_n (by decide), upr_n (by decide)]
end KK
