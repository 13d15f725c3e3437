/-! ## the class begins a deed: the machine goes into the history, a copy of it goes on -/
def KR (D D' : qD) : Prop := ∀ b, 28 ≤ b → b < 34 → D' b = D b
theorem XE.cg {t t' : qT} {D D' G G' : qD} {k : Nat} (h : XE t D G k) (hk : KI t t' D D') (h6 : t'.2.1 0 6 = t.2.1 0 6) (hp : t'.2.1 6 = t.2.1 6) (h5 : D' 5 = D 5) (h11 : D' 11 = D 11 ∧ D' 12 = D 12 ∧ D' 13 = D 13 ∧ D' 14 = D 14)
    (g : G' 28 14 = G 28 14 ∧ G' 28 15 = G 28 15 ∧ G' 28 35 = G 28 35 ∧ G' 28 36 = G 28 36 ∧ G' 28 37 = G 28 37 ∧ G' 46 = G 46 ∧ G' 47 = G 47 ∧ G' 48 = G 48) : XE t' D' G' k := by
  obtain ⟨g1, g2, g3, g4, g5, g6, g7, g8⟩ := g
  unfold XE
  rw [h6, g1, g2, g3, g4, g5, g6, g7, g8]
  rcases h with h | ⟨e0, e1, e2, e3, e4, e5, e6⟩
  · exact .inl h
  · exact .inr ⟨e0, e1, e2.ki hk, e3.ki hk hp (fun i => by rw [h5]) (fun _ _ _ => rfl), e4.d h11 e5.2 (fun _ _ _ => rfl), e5, e6⟩
def BG (t t' : qT) (D D' G : qD) (k a : Nat) : Prop := (t'.2.2.1 = a + 7 ∧ t'.2.2.2 ≤ t.2.2.2 + 110 ∧ t'.2.1 0 5 = a) ∧ (MO t' a ∧ ML t' a ∧ t'.2.1 a 0 = k ∧ MR t' D' a (G 42)) ∧ (CB t' k a ∧ CR t' D' k G) ∧ KR D D' ∧
  ∀ N D'', RVd (G 28 14) N → FR a D' D'' → MR t' D'' a N → XJ t' D'' (upr (sKeep G) 42 N) k
section KH
variable {S : (Nat → Int32) × Nat} {t : qT} {D G : qD} {Q : Int → qT → qD → Prop} {k : Nat}
theorem c101 (hX : XJ t D G k) (hG : RVs G) (q : ∀ t' D', BG t t' D D' G k t.2.2.1 → Q 0 t' D') : wp S 87 0 [some (qs 0)] [] t D Q := by
  obtain ⟨hn, hP, hC, hc, hH, hS, h35, hE⟩ := hX
  obtain ⟨g1, g2, g3, g4, g5⟩ := id hH
  have h27 := hG.2.2.1
  have hmin : qmin (G 28 27 + 1) 30 = sPushN (G 28 27) := by
    unfold qmin sPushN
    by_cases c : G 28 27 = 30
    · rw [if_pos (by omega), if_pos c]
    · rw [if_neg (by omega), if_neg c]
  generalize hl : t.2.1 0 5 = l at hc
  have hlt := hc.1.1.2.1
  refine b101_0 (b21_0 ?_)
  rw [hl, g1, hmin]
  refine chk_i (.inr hc.1.1.1) (chk_i g2 (chk_i (by omega) (chk_i (by omega) (chk_i (by rw [nwT_s]; decide) ?_))))
  have el : nwP (upP t.2.1 4 (D 3 1) l) t.2.2.1 0 5 = l := by
    show (if (0 : Nat) = t.2.2.1 then 0 else if (0 : Nat) = 4 ∧ (5 : Int) = D 3 1 then l else t.2.1 0 5) = l
    rw [if_neg (by omega), if_neg (by omega), hl]
  show wp S 23 0 [some (qr t.2.2.1), some (qr (nwP (upP t.2.1 4 (D 3 1) l) t.2.2.1 0 5))] [] (nwT t.1 t.2.2.1 (3, 0), nwP (upP t.2.1 4 (D 3 1) l) t.2.2.1, (t.2.2.1 + 1, t.2.2.2 + 9)) (upr (up (up D 3 1 ((D 3 1 + 1) % 30)) 3 2 (sPushN (G 28 27))) t.2.2.1 (fun _ => 0)) (fun _ t2 D2 => Q 0 (t2.1, upP t2.2.1 0 5 t.2.2.1, t2.2.2) D2)
  rw [el]
  generalize hD1 : up (up D 3 1 ((D 3 1 + 1) % 30)) 3 2 (sPushN (G 28 27)) = D1
  have d1n : ∀ b, b ≠ 3 → D1 b = D b := fun b hb => by rw [← hD1, up_eq, up_eq, upr_n hb, upr_n hb]
  have d31 : D1 3 1 = (D 3 1 + 1) % 30 := by rw [← hD1]; simp only [up_eq, upr_s]; rw [ui_n (by decide), ui_s]
  have d32 : D1 3 2 = sPushN (G 28 27) := by rw [← hD1]; simp only [up_eq, upr_s]; rw [ui_s]
  generalize hu : ((nwT t.1 t.2.2.1 (3, 0), nwP (upP t.2.1 4 (D 3 1) l) t.2.2.1, (t.2.2.1 + 1, t.2.2.2 + 9)) : qT) = u
  have un : u.2.2.1 = t.2.2.1 + 1 ∧ u.2.2.2 = t.2.2.2 + 9 := by rw [← hu]; exact ⟨rfl, rfl⟩
  have u1 : ∀ b, b ≠ t.2.2.1 → u.1 b = t.1 b := fun b hb => by rw [← hu]; exact if_neg hb
  have u1a : u.1 t.2.2.1 = (3, 0) := by rw [← hu]; exact if_pos rfl
  have u2 : ∀ b, b ≠ t.2.2.1 → b ≠ 4 → u.2.1 b = t.2.1 b := fun b hb h4 => by
    rw [← hu]; funext j
    show (if b = t.2.2.1 then 0 else if b = 4 ∧ j = D 3 1 then l else t.2.1 b j) = _
    rw [if_neg hb, if_neg (fun z => h4 z.1)]
  have u24 : ∀ i, u.2.1 4 i = if i = D 3 1 then l else t.2.1 4 i := fun i => by
    rw [← hu]
    show (if (4 : Nat) = t.2.2.1 then 0 else if (4 : Nat) = 4 ∧ i = D 3 1 then l else t.2.1 4 i) = _
    rw [if_neg (by omega)]
    by_cases c : i = D 3 1
    · rw [if_pos ⟨rfl, c⟩, if_pos c]
    · rw [if_neg (fun z => c z.2), if_neg c]
  have k1 : KI t u D (upr D1 t.2.2.1 (fun _ => 0)) := ⟨by omega, fun b hb => by
    have h1 := hb.1
    have h2 := hb.2
    exact ⟨u1 b (by omega), u2 b (by omega) (by omega), by rw [upr_n (by omega), d1n b (by omega)]⟩⟩
  have oU := hc.1.ki k1
  have pl : u.2.1 l = t.2.1 l := u2 l (by omega) (by have := hc.1.1.2.2; omega)
  obtain ⟨o0, oc, o1, o2, o3, o4, o5, o6⟩ := id hc.1
  have hk0 := hc.2.1
  refine c25 (N := G 42) hn un.1 (by rw [u1a]) oU (by omega) (hc.2.2.1.ki hc.1 k1) ?_ ?_ ?_
  · rw [pl]
    exact ⟨o1.2.2.1, o2.2.2.1, o3.2.2.1, o4.2.2.1, o5.2.2.1, o6.2.2.1⟩
  · rw [pl, hk0]
    have := hC.1.cb
    unfold CB at this ⊢
    rw [(k1.2 k hC.1.1.2).2.1]; exact this
  · intro t2 D2 e1 e2 e3 e4 e5 e6 e7 e8 e9
    rw [pl, hk0] at e7
    rw [e7] at e9
    generalize hv : ((t2.1, upP t2.2.1 0 5 t.2.2.1, t2.2.2) : qT) = v
    have v1 : v.1 = t2.1 := by rw [← hv]
    have vn : v.2.2 = t2.2.2 := by rw [← hv]
    have v2 : ∀ b, b ≠ 0 → v.2.1 b = t2.2.1 b := fun b hb => by rw [← hv]; funext j; exact if_neg (fun z => hb z.1)
    have v05 : v.2.1 0 5 = t.2.2.1 := by
      rw [← hv]
      show (if (0 : Nat) = 0 ∧ (5 : Int) = 5 then t.2.2.1 else t2.2.1 0 5) = _
      exact if_pos ⟨rfl, rfl⟩
    have v0n : ∀ i, i ≠ 5 → v.2.1 0 i = t2.2.1 0 i := fun i hi => by rw [← hv]; exact if_neg (fun z => hi z.2)
    have k2 : KI t2 v D2 D2 := ⟨by rw [vn]; exact Nat.le_refl _, fun b hb => ⟨by rw [v1], v2 b (by have := hb.2; omega), rfl⟩⟩
    have va : v.2.1 t.2.2.1 = t2.2.1 t.2.2.1 := v2 _ (by omega)
    have k3 : KI t v D D2 := ⟨by rw [vn]; omega, fun b hb => by
      have h1 := hb.1
      have h2 := hb.2
      have h3 := k1.2 b hb
      have h4 := e3 b h1
      exact ⟨by rw [v1, h4.1, h3.1], by rw [v2 b (by omega), h4.2.1, h3.2.1], by rw [h4.2.2, h3.2.2]⟩⟩
    have d2 : ∀ b, b < t.2.2.1 → D2 b = D1 b := fun b hb => by rw [(e3 b hb).2.2, upr_n (by omega)]
    refine q v D2 ⟨⟨by rw [vn]; exact e1, by rw [vn]; omega, v05⟩, ⟨e5.ki k2, ?_, by rw [va]; exact e7, e8.ki e5 k2⟩, ⟨?_, hC.2.ki hC.1 k3⟩, fun b h1 h2 => by rw [d2 b (by omega), d1n b (by omega)], fun N D'' hN hF hM => ?_⟩
    · unfold ML; rw [va]; exact e6
    · unfold CB; rw [v2 k (by have := hC.1.1.2.2; omega)]; exact e9
    · have g28 : ∀ i, i ≠ 27 → upr (sKeep G) 42 N 28 i = G 28 i := fun i hi => by rw [upr_n (by decide), sKeep_28 hi]
      have gn : ∀ b, b ≠ 28 → b ≠ 42 → b ≠ 43 → upr (sKeep G) 42 N b = G b := fun b h1 h2 h3 => by rw [upr_n h2, sKeep_n h3 h1]
      have g27 : upr (sKeep G) 42 N 28 27 = sPushN (G 28 27) := by rw [upr_n (by decide)]; unfold sKeep; rw [upr_s, ui_s]
      have g43 : upr (sKeep G) 42 N 43 = sPush (G 43) (G 42) (G 28 27) := by rw [upr_n (by decide)]; unfold sKeep; rw [upr_n (by decide), upr_s]
      have g42 : upr (sKeep G) 42 N 42 = N := upr_s
      generalize upr (sKeep G) 42 N = G' at g28 gn g27 g43 g42 ⊢
      have d3 : ∀ b, b < t.2.2.1 → D'' b = D1 b := fun b hb => by rw [hF b (by omega), d2 b hb]
      have dk : ∀ b, b < t.2.2.1 → b ≠ 3 → D'' b = D b := fun b hb h3 => by rw [d3 b hb, d1n b h3]
      have k4 : KI t v D D'' := ⟨k3.1, fun b hb => ⟨(k3.2 b hb).1, (k3.2 b hb).2.1, by rw [hF b (by have := hb.1; omega), (k3.2 b hb).2.2]⟩⟩
      have P0 : ∀ i, i ≠ 5 → v.2.1 0 i = t.2.1 0 i := fun i hi => by rw [v0n i hi, (e3 0 (by omega)).2.1, u2 0 (by omega) (by decide)]
      refine ⟨by rw [vn]; omega, ⟨?_, ?_⟩, ⟨hC.1.ki k4, ?_⟩, ⟨by rw [v05]; exact e5.ki k2, by rw [v05, va]; exact e7, ?_, ?_⟩, ?_, ?_, ?_, ?_⟩
      · unfold PGr
        rw [dk 1 (by omega) (by decide), dk 2 (by omega) (by decide), g28 1 (by decide), gn 29 (by decide) (by decide) (by decide)]
        exact hP.1
      · rw [dk 0 (by omega) (by decide), g28 15 (by decide)]; exact hP.2
      · have := hC.2.ki hC.1 k4
        unfold CR
        rw [g28 14 (by decide), gn 34 (by decide) (by decide) (by decide), gn 35 (by decide) (by decide) (by decide), gn 36 (by decide) (by decide) (by decide), gn 37 (by decide) (by decide) (by decide), gn 38 (by decide) (by decide) (by decide), gn 39 (by decide) (by decide) (by decide), gn 40 (by decide) (by decide) (by decide)]
        exact this
      · rw [v05, g42]; exact hM
      · rw [g28 14 (by decide), g42]; exact hN
      · rw [g28 14 (by decide), g27, g43]
        refine hH.push hc k4 (fun i => ?_) (by rw [d3 3 (by omega), d31]) (by rw [d3 3 (by omega), d32])
        rw [v2 4 (by decide), (e3 4 (by omega)).2.1, u24]
      · rw [g28 31 (by decide), gn 44 (by decide) (by decide) (by decide)]
        exact hS.d ⟨dk 7 (by omega) (by decide), dk 8 (by omega) (by decide), dk 9 (by omega) (by decide), dk 10 (by omega) (by decide)⟩ hG.2.2.2.1.2 fun _ _ _ => rfl
      · rw [g28 35 (by decide), g28 15 (by decide)]; exact h35
      · refine hE.cg k4 (P0 6 (by decide)) ?_ (dk 5 (by omega) (by decide)) ⟨dk 11 (by omega) (by decide), dk 12 (by omega) (by decide), dk 13 (by omega) (by decide), dk 14 (by omega) (by decide)⟩ ⟨g28 14 (by decide), g28 15 (by decide), g28 35 (by decide), g28 36 (by decide), g28 37 (by decide), gn 46 (by decide) (by decide) (by decide), gn 47 (by decide) (by decide) (by decide), gn 48 (by decide) (by decide) (by decide)⟩
        rw [v2 6 (by decide), (e3 6 (by omega)).2.1, u2 6 (by omega) (by decide)]
end KH
