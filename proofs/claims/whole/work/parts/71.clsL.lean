section KL
variable {S : (Nat → Int32) × Nat} {t : qT} {D G : qD} {Q : Int → qT → qD → Prop} {k a : Nat} {N : Int → Int}
theorem x91 (hX : XJ t D G k) (hG : RVs G) (q : ∀ t' D', XK t t' D D' (pImage G).2 → Q (pImage G).1 t' D') : wp S 91 0 [some (qs 0)] [] t D Q := by
  have hq := hX.q
  have hX' := hX
  obtain ⟨hn, hP, hC, hc, hH, hS, h35, hE⟩ := hX
  unfold pImage at q
  refine b91_0 (c98 hq.1 hG.1 (tf2 (fun c => ?_) fun c => c23k (fun i a b => ?_) fun v v1 vn v2 v6 => c66z fun D' dn d11 d12 => ?_))
  · rw [if_pos c] at q
    exact q _ _ (XK.same hX')
  · exact (hH.2.2.2.1 i a b).imp id fun z => z.1
  · rw [if_neg c] at q
    have v1 : v.1 = t.1 := v1
    have vn : v.2.2 = t.2.2 := vn
    have w2 : ∀ b, b ≠ 6 → b ≠ 0 → v.2.1 b = t.2.1 b := fun b h6 h0 => by rw [v2 b h6]; funext j; exact if_neg (fun z => h0 z.1)
    have v05 : v.2.1 0 5 = t.2.1 0 5 := by
      rw [v2 0 (by decide)]
      show (if (0 : Nat) = 0 ∧ (5 : Int) = 6 then t.2.1 0 5 else t.2.1 0 5) = _
      exact if_neg (fun z => absurd z.2 (by decide))
    have v06 : v.2.1 0 6 = t.2.1 0 5 := by
      rw [v2 0 (by decide)]
      show (if (0 : Nat) = 0 ∧ (6 : Int) = 6 then t.2.1 0 5 else t.2.1 0 6) = _
      exact if_pos ⟨rfl, rfl⟩
    have w6 : ∀ i, 0 ≤ i → i < 30 → v.2.1 6 i = t.2.1 4 i := fun i a b => v6 i a b
    have d5 : D' 5 1 = D 3 1 ∧ D' 5 2 = D 3 2 := by
      rw [dn 5 (by decide) (by decide) (by decide) (by decide), up_eq, up_eq, upr_s, upr_s]
      exact ⟨by rw [ui_n (by decide), ui_s], by rw [ui_s]⟩
    have dk : ∀ b, b ≠ 5 → b ≠ 11 → b ≠ 12 → b ≠ 13 → b ≠ 14 → D' b = D b := fun b h0 h1 h2 h3 h4 => by rw [dn b h1 h2 h3 h4, up_eq, up_eq, upr_n h0, upr_n h0]
    have e7 : up (up D 5 1 (D 3 1)) 5 2 ((up D 5 1 (D 3 1)) 3 2) 7 3 = D 7 3 := by rw [up_eq, up_eq, upr_n (by decide), upr_n (by decide)]
    have f11 : D' 11 3 = D 7 3 := by rw [d11, up_eq, up_eq, upr_n (by decide), upr_n (by decide)]
    have f12 : ∀ i, 0 ≤ i → i < 6 → D' 12 i = D 8 i ∧ D' 13 i = D 9 i ∧ D' 14 i = D 10 i := fun i a b => by
      have := d12 i a b
      rw [up_eq, up_eq, upr_n (by decide), upr_n (by decide), upr_n (by decide), upr_n (by decide), upr_n (by decide), upr_n (by decide)] at this
      exact this
    have hk : KI t v D D' := ⟨by rw [vn]; exact Nat.le_refl _, fun b hb => ⟨by rw [v1], w2 b (by have := hb.2; omega) (by have := hb.2; omega), dk b (by have := hb.2; omega) (by have := hb.2; omega) (by have := hb.2; omega) (by have := hb.2; omega) (by have := hb.2; omega)⟩⟩
    have hc' := hc.ki hk
    rw [v05]
    refine chk_i hc'.1.1.1 ?_
    rw [hc'.2.2.1.2.2.1]
    dsimp only at q
    generalize hg : upr (upr (upr (upr G 46 (cpf (G 46) (G 42) 0 110)) 47 (cpf (G 47) (G 43) 0 3300)) 48 (cpf (G 48) (G 44) 0 24)) 28 (ui (ui (ui (G 28) 36 (G 28 27)) 37 (G 28 31)) 35 (G 28 15)) = G' at q
    have g28 : ∀ i, i ≠ 35 → i ≠ 36 → i ≠ 37 → G' 28 i = G 28 i := fun i h1 h2 h3 => by rw [← hg, upr_s, ui_n h1, ui_n h3, ui_n h2]
    have gn : ∀ b, b ≠ 28 → b ≠ 46 → b ≠ 47 → b ≠ 48 → G' b = G b := fun b h1 h2 h3 h4 => by rw [← hg, upr_n h1, upr_n h4, upr_n h3, upr_n h2]
    have g35 : G' 28 35 = G 28 15 := by rw [← hg, upr_s, ui_s]
    have g36 : G' 28 36 = G 28 27 := by rw [← hg, upr_s, ui_n (by decide), ui_n (by decide), ui_s]
    have g37 : G' 28 37 = G 28 31 := by rw [← hg, upr_s, ui_n (by decide), ui_s]
    have g46 : ∀ i, 0 ≤ i → i < 110 → G' 46 i = G 42 i := fun i a b => by rw [← hg, upr_n (by decide), upr_n (by decide), upr_n (by decide), upr_s, cpf_y ⟨a, b⟩]
    have g47 : ∀ i, 0 ≤ i → i < 3300 → G' 47 i = G 43 i := fun i a b => by rw [← hg, upr_n (by decide), upr_n (by decide), upr_s, cpf_y ⟨a, b⟩]
    have g48 : ∀ i, 0 ≤ i → i < 24 → G' 48 i = G 44 i := fun i a b => by rw [← hg, upr_n (by decide), upr_s, cpf_y ⟨a, b⟩]
    have h27 := hG.2.2.1
    refine q v D' ⟨⟨k, by rw [vn]; exact hn, ⟨?_, ?_⟩, ⟨hC.1.ki hk, ?_⟩, ?_, ?_, ?_, ?_, .inr ⟨?_, ?_, ?_, ?_, ?_, ?_, fun i a b => ?_⟩⟩, fun b h1 h2 => dk b (by omega) (by omega) (by omega) (by omega) (by omega), by rw [vn]; omega, by rw [vn]; omega⟩
    · unfold PGr
      rw [dk 1 (by decide) (by decide) (by decide) (by decide) (by decide), dk 2 (by decide) (by decide) (by decide) (by decide) (by decide), g28 1 (by decide) (by decide) (by decide), gn 29 (by decide) (by decide) (by decide) (by decide)]; exact hP.1
    · rw [dk 0 (by decide) (by decide) (by decide) (by decide) (by decide), g28 15 (by decide) (by decide) (by decide)]; exact hP.2
    · have := hC.2.ki hC.1 hk
      unfold CR
      rw [g28 14 (by decide) (by decide) (by decide), gn 34 (by decide) (by decide) (by decide) (by decide), gn 35 (by decide) (by decide) (by decide) (by decide), gn 36 (by decide) (by decide) (by decide) (by decide), gn 37 (by decide) (by decide) (by decide) (by decide), gn 38 (by decide) (by decide) (by decide) (by decide), gn 39 (by decide) (by decide) (by decide) (by decide), gn 40 (by decide) (by decide) (by decide) (by decide)]
      exact this
    · rw [v05, g28 14 (by decide) (by decide) (by decide), gn 42 (by decide) (by decide) (by decide) (by decide)]; exact hc'
    · rw [g28 14 (by decide) (by decide) (by decide), g28 27 (by decide) (by decide) (by decide), gn 43 (by decide) (by decide) (by decide) (by decide)]
      exact hH.ki hk (w2 4 (by decide) (by decide)) (fun i => by rw [dk 3 (by decide) (by decide) (by decide) (by decide) (by decide)]) fun _ _ _ => rfl
    · rw [g28 31 (by decide) (by decide) (by decide), gn 44 (by decide) (by decide) (by decide) (by decide)]
      exact hS.d ⟨dk 7 (by decide) (by decide) (by decide) (by decide) (by decide), dk 8 (by decide) (by decide) (by decide) (by decide) (by decide), dk 9 (by decide) (by decide) (by decide) (by decide) (by decide), dk 10 (by decide) (by decide) (by decide) (by decide) (by decide)⟩ hG.2.2.2.1.2 fun _ _ _ => rfl
    · rw [g35, g28 15 (by decide) (by decide) (by decide)]
      have := hG.2.2.2.2.2.1
      omega
    · rw [v06]; have := hc.1.1.2.2; omega
    · rw [g35, g28 15 (by decide) (by decide) (by decide)]
    · rw [v06, g28 14 (by decide) (by decide) (by decide)]
      exact hc'.cg g46
    · rw [g28 14 (by decide) (by decide) (by decide), g36]
      exact hH.cp hk w6 d5.1 d5.2 fun i a b => g47 i a (by omega)
    · rw [g37]
      exact hS.cp hG.2.2.2.1.2 f11 f12 g48
    · rw [g37]; exact hG.2.2.2.1
    · rw [g48 i a b]; exact hG.2.2.2.2.2.2.1 i a b
theorem x92 (hX : XJ t D G k) (hG : RVs G) (q : ∀ t' D', XK t t' D D' (pRestore G).2 → RVs (pRestore G).2 → Q (pRestore G).1 t' D') : wp S 92 0 [some (qs 0)] [] t D Q := by
  have hX' := hX
  obtain ⟨hn, hP, hC, hc, hH, hS, h35, hE⟩ := hX
  unfold pRestore at q
  rcases hE with hE | ⟨e0, e1, e2, e3, e4, e5, e6⟩
  · refine b92_0 ?_
    rw [if_pos hE.1]
    rw [if_pos (by omega)] at q
    exact q _ _ (XK.same hX') hG
  · refine b92_0 ?_
    rw [if_neg e0]
    rw [if_neg (fun z => z e1)] at q
    refine c23h (fun i a b => ?_) fun v v1 vn v2 v6 => c66s fun D' dn d11 d12 => ?_
    · exact (e3.2.2.2.1 i a b).imp id fun z => z.1
    have v1 : v.1 = t.1 := v1
    have vn : v.2.2 = t.2.2 := vn
    have w2 : ∀ b, b ≠ 4 → b ≠ 0 → v.2.1 b = t.2.1 b := fun b h6 h0 => by rw [v2 b h6]; funext j; exact if_neg (fun z => h0 z.1)
    have v05 : v.2.1 0 5 = t.2.1 0 6 := by
      rw [v2 0 (by decide)]
      show (if (0 : Nat) = 0 ∧ (5 : Int) = 5 then t.2.1 0 6 else t.2.1 0 5) = _
      exact if_pos ⟨rfl, rfl⟩
    have v06 : v.2.1 0 6 = t.2.1 0 6 := by
      rw [v2 0 (by decide)]
      show (if (0 : Nat) = 0 ∧ (6 : Int) = 5 then t.2.1 0 6 else t.2.1 0 6) = _
      exact if_neg (fun z => absurd z.2 (by decide))
    have w6 : ∀ i, 0 ≤ i → i < 30 → v.2.1 4 i = t.2.1 6 i := fun i a b => v6 i a b
    have d5 : D' 3 1 = D 5 1 ∧ D' 3 2 = D 5 2 := by
      rw [dn 3 (by decide) (by decide) (by decide) (by decide), up_eq, up_eq, upr_s, upr_s]
      exact ⟨by rw [ui_n (by decide), ui_s], by rw [ui_s]⟩
    have dk : ∀ b, b ≠ 3 → b ≠ 7 → b ≠ 8 → b ≠ 9 → b ≠ 10 → D' b = D b := fun b h0 h1 h2 h3 h4 => by rw [dn b h1 h2 h3 h4, up_eq, up_eq, upr_n h0, upr_n h0]
    have f11 : D' 7 3 = D 11 3 := by rw [d11, up_eq, up_eq, upr_n (by decide), upr_n (by decide)]
    have f12 : ∀ i, 0 ≤ i → i < 6 → D' 8 i = D 12 i ∧ D' 9 i = D 13 i ∧ D' 10 i = D 14 i := fun i a b => by
      have := d12 i a b
      rw [up_eq, up_eq, upr_n (by decide), upr_n (by decide), upr_n (by decide), upr_n (by decide), upr_n (by decide), upr_n (by decide)] at this
      exact this
    have hk : KI t v D D' := ⟨by rw [vn]; exact Nat.le_refl _, fun b hb => ⟨by rw [v1], w2 b (by have := hb.2; omega) (by have := hb.2; omega), dk b (by have := hb.2; omega) (by have := hb.2; omega) (by have := hb.2; omega) (by have := hb.2; omega) (by have := hb.2; omega)⟩⟩
    have hc' := e2.ki hk
    rw [v05]
    refine chk_i hc'.1.1.1 ?_
    rw [hc'.2.2.1.2.2.1]
    dsimp only at q
    generalize hg : upr (upr (upr (upr G 42 (cpf (G 42) (G 46) 0 110)) 43 (cpf (G 43) (G 47) 0 3300)) 44 (cpf (G 44) (G 48) 0 24)) 28 (ui (ui (G 28) 27 (G 28 36)) 31 (G 28 37)) = G' at q
    have g28 : ∀ i, i ≠ 27 → i ≠ 31 → G' 28 i = G 28 i := fun i h1 h2 => by rw [← hg, upr_s, ui_n h2, ui_n h1]
    have gn : ∀ b, b ≠ 28 → b ≠ 42 → b ≠ 43 → b ≠ 44 → G' b = G b := fun b h1 h2 h3 h4 => by rw [← hg, upr_n h1, upr_n h4, upr_n h3, upr_n h2]
    have g27 : G' 28 27 = G 28 36 := by rw [← hg, upr_s, ui_n (by decide), ui_s]
    have g31 : G' 28 31 = G 28 37 := by rw [← hg, upr_s, ui_s]
    have g42 : ∀ i, 0 ≤ i → i < 110 → G' 42 i = G 46 i := fun i a b => by rw [← hg, upr_n (by decide), upr_n (by decide), upr_n (by decide), upr_s, cpf_y ⟨a, b⟩]
    have g43 : ∀ i, 0 ≤ i → i < 3300 → G' 43 i = G 47 i := fun i a b => by rw [← hg, upr_n (by decide), upr_n (by decide), upr_s, cpf_y ⟨a, b⟩]
    have g44 : ∀ i, 0 ≤ i → i < 24 → G' 44 i = G 48 i := fun i a b => by rw [← hg, upr_n (by decide), upr_s, cpf_y ⟨a, b⟩]
    have h36 := e3.2.2.1
    have gs : SC G G' := ⟨g28 14 (by decide) (by decide), gn 34 (by decide) (by decide) (by decide) (by decide), gn 35 (by decide) (by decide) (by decide) (by decide), gn 36 (by decide) (by decide) (by decide) (by decide), gn 37 (by decide) (by decide) (by decide) (by decide), gn 38 (by decide) (by decide) (by decide) (by decide), gn 39 (by decide) (by decide) (by decide) (by decide), gn 40 (by decide) (by decide) (by decide) (by decide)⟩
    refine q v D' ⟨⟨k, by rw [vn]; exact hn, ⟨?_, ?_⟩, ⟨hC.1.ki hk, ?_⟩, ?_, ?_, ?_, ?_, ?_⟩, fun b h1 h2 => dk b (by omega) (by omega) (by omega) (by omega) (by omega), by rw [vn]; omega, by rw [vn]; omega⟩
      ⟨hG.1.sc gs, ?_, by rw [g27]; exact h36, by rw [g31]; exact e5, by rw [g28 1 (by decide) (by decide)]; exact hG.2.2.2.2.1, by rw [g28 15 (by decide) (by decide)]; exact hG.2.2.2.2.2.1, fun i a b => by rw [g44 i a b]; exact e6 i a b, by rw [gn 29 (by decide) (by decide) (by decide) (by decide), g28 1 (by decide) (by decide)]; exact hG.2.2.2.2.2.2.2⟩
    · unfold PGr
      rw [dk 1 (by decide) (by decide) (by decide) (by decide) (by decide), dk 2 (by decide) (by decide) (by decide) (by decide) (by decide), g28 1 (by decide) (by decide), gn 29 (by decide) (by decide) (by decide) (by decide)]; exact hP.1
    · rw [dk 0 (by decide) (by decide) (by decide) (by decide) (by decide), g28 15 (by decide) (by decide)]; exact hP.2
    · have := hC.2.ki hC.1 hk
      obtain ⟨s0, s1, s2, s3, s4, s5, s6, s7⟩ := gs
      unfold CR
      rw [s0, s1, s2, s3, s4, s5, s6, s7]
      exact this
    · rw [v05, g28 14 (by decide) (by decide)]; exact hc'.cg g42
    · rw [g28 14 (by decide) (by decide), g27]
      exact e3.cp hk w6 d5.1 d5.2 fun i a b => g43 i a (by omega)
    · rw [g31]
      exact e4.cp e5.2 f11 f12 g44
    · rw [g28 35 (by decide) (by decide), g28 15 (by decide) (by decide)]; exact h35
    · have hE' : XE t D G k := .inr ⟨e0, e1, e2, e3, e4, e5, e6⟩
      exact hE'.cg hk v06 (w2 6 (by decide) (by decide)) (dk 5 (by decide) (by decide) (by decide) (by decide) (by decide)) ⟨dk 11 (by decide) (by decide) (by decide) (by decide) (by decide), dk 12 (by decide) (by decide) (by decide) (by decide) (by decide), dk 13 (by decide) (by decide) (by decide) (by decide) (by decide), dk 14 (by decide) (by decide) (by decide) (by decide) (by decide)⟩ ⟨g28 14 (by decide) (by decide), g28 15 (by decide) (by decide), g28 35 (by decide) (by decide), g28 36 (by decide) (by decide), g28 37 (by decide) (by decide), gn 46 (by decide) (by decide) (by decide) (by decide), gn 47 (by decide) (by decide) (by decide) (by decide), gn 48 (by decide) (by decide) (by decide) (by decide)⟩
    · rw [g28 14 (by decide) (by decide)]; exact e2.2.2.2.cg g42
end KL
