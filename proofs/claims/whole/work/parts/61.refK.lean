section RK
variable {S : (Nat → Int32) × Nat} {t : qT} {D : qD} {Q : Int → qT → qD → Prop}
theorem c118 {c : Int} (hc : 1 ≤ c ∧ c ≤ 126) (hz : zV (zOf D)) (h5 : D 28 5 = 0) (h6 : ¬ D 28 6 = 0) (k1 : ∀ E, zStep (zOf D) c = some (zOf E) → SQ D E → Q 1 t E) (k0 : ∀ E, zStep (zOf D) c = none → SQ D E → Q 0 t E) : wp S 118 0 [some (qs 28), some (qi c), none] [] t D Q := by
  obtain ⟨z2, z3, z4, z5, z8, z9, za, zb, zc⟩ := hz
  have z2 : 0 ≤ D 28 2 ∧ D 28 2 ≤ 2 := z2
  have z3 : 0 ≤ D 28 3 ∧ D 28 3 ≤ 8 := z3
  have z8 : 0 ≤ D 28 8 ∧ D 28 8 ≤ 9 := z8
  have za : D 28 6 = 0 ∨ (D 28 3 < 8 ∧ ((D 28 7 = 43 ∧ D 28 6 = 1) ∨ (D 28 7 = 117 ∧ D 28 6 = 1) ∨ (D 28 7 = 115 ∧ (D 28 6 = 1 ∨ D 28 6 = 2)))) := za h5
  have e : zStep (zOf D) c = zOp1 (zOf D) c := by unfold zStep; rw [if_pos (show (zOf D).1 5 = 0 from h5), if_neg (show ¬ (zOf D).1 6 = 0 from h6)]
  rw [e] at k1 k0
  have okg : ∀ {x : Int} {Q' : Int → qT → qD → Prop}, ((D 28 7 = 43 ∧ x = c - 48 ∧ 49 ≤ c ∧ c ≤ 57 ∧ D 28 8 + c - 48 < 10) ∨ (¬ D 28 7 = 43 ∧ x = 0 ∧ 48 ≤ c ∧ (D 28 6 = 1 → c ≤ 51) ∧ c ≤ 53)) → (∀ E, zOp1 (zOf D) c = some (zOf E) → SQ D E → Q' 0 t E) →
      wp S 116 0 [some (qs 28)] [] t (up (up (up D 28 8 (D 28 8 + x)) 32 (24 * D 28 2 + 3 * D 28 3 + D 28 6) (c - 48)) 28 6 (D 28 6 + 1)) Q' := fun {x Q'} hcx k => by
    refine c116 (show qR (D 28 7) by omega) (show qR (D 28 6 + 1) by omega) (show 0 ≤ D 28 2 ∧ D 28 2 < 3 by omega) (fun h => k _ ?_ ((((((SQ.rfl'.u28 (by decide)).uS (by decide)).u28 (by decide)).u28 (by decide)).u28 (by decide)).uS (by decide))) fun h => k _ ?_ (((SQ.rfl'.u28 (by decide)).uS (by decide)).u28 (by decide))
    · have hh : zDig (D 28 7) < D 28 6 + 1 := h
      unfold zDig at hh
      unfold zOp1
      rcases hcx with ⟨g1, g2, g3⟩ | ⟨g1, g2, g3⟩
      · rw [if_pos (show (zOf D).1 7 = 43 from g1), if_pos (show 49 ≤ c ∧ c ≤ 57 ∧ (zOf D).1 8 + c - 48 < 10 from g3)]
        subst g2
        simp only [zOf, zEnd, up_eq, upr_u, upr_s, upr_b, Nat.reduceBEq, ui_u]
        rfl
      · rw [if_neg g1] at hh
        subst g2
        rw [if_neg (show ¬ (zOf D).1 7 = 43 from g1)]
        by_cases p1 : D 28 6 = 1
        · rw [if_pos (show (zOf D).1 6 = 1 from p1), if_pos (by omega)]
          by_cases p2 : D 28 7 = 115
          · rw [if_pos p2] at hh; omega
          · rw [if_neg (show ¬ (zOf D).1 7 = 115 from p2)]
            simp only [zOf, zEnd, up_eq, upr_u, upr_s, upr_b, Nat.reduceBEq, ui_u, Int.add_zero, ui_id, p1]
            rfl
        · have p2 : D 28 6 = 2 := by omega
          rw [if_neg (show ¬ (zOf D).1 6 = 1 from p1), if_pos (by omega)]
          simp only [zOf, zEnd, up_eq, upr_u, upr_s, upr_b, Nat.reduceBEq, ui_u, Int.add_zero, ui_id, p2]
          rfl
    · have h : ¬ zDig (D 28 7) < D 28 6 + 1 := h
      unfold zDig at h
      have p7 : D 28 7 = 115 ∧ D 28 6 = 1 := by
        rcases za with z | ⟨_, z | z | z⟩
        · omega
        · rw [z.1, z.2] at h; exact absurd (by decide) h
        · rw [z.1, z.2] at h; exact absurd (by decide) h
        · rcases z with ⟨w1, w2⟩
          refine ⟨w1, ?_⟩
          rcases w2 with w2 | w2
          · exact w2
          · rw [w1, w2] at h; exact absurd (by decide) h
      unfold zOp1
      rcases hcx with ⟨g1, g2, g3⟩ | ⟨g1, g2, g3⟩
      · omega
      · subst g2
        rw [if_neg (show ¬ (zOf D).1 7 = 43 from g1), if_pos (show (zOf D).1 6 = 1 from p7.2), if_pos (by omega), if_pos (show (zOf D).1 7 = 115 from p7.1)]
        simp only [zOf, up_eq, upr_u, upr_s, upr_b, Nat.reduceBEq, Int.add_zero, ui_id, p7.2]
        rfl
  have badg : ∀ {x : Int} {Q' : Int → qT → qD → Prop}, (∀ E, SQ D E → Q' 0 t E) →
      wp S 116 0 [some (qs 28)] [] t (up (up (up D 28 8 (D 28 8 + x)) 32 (24 * D 28 2 + 3 * D 28 3 + D 28 6) (c - 48)) 28 6 (D 28 6 + 1)) Q' := fun {x Q'} k => by
    refine c116 (show qR (D 28 7) by omega) (show qR (D 28 6 + 1) by omega) (show 0 ≤ D 28 2 ∧ D 28 2 < 3 by omega) (fun h => k _ ((((((SQ.rfl'.u28 (by decide)).uS (by decide)).u28 (by decide)).u28 (by decide)).u28 (by decide)).uS (by decide))) fun h => k _ (((SQ.rfl'.u28 (by decide)).uS (by decide)).u28 (by decide))
  refine b118_0 (chk_i (by omega) (ite_i (fun h43 => ?_) fun h43 => ?_))
  · have none43 : ¬ (49 ≤ c ∧ c ≤ 57 ∧ D 28 8 + c - 48 < 10) → zOp1 (zOf D) c = none := fun h => by
      unfold zOp1
      rw [if_pos (show (zOf D).1 7 = 43 from h43), if_neg (show ¬ (49 ≤ c ∧ c ≤ 57 ∧ (zOf D).1 8 + c - 48 < 10) from h)]
    refine chk_i (by omega) (c110 (by omega) (by omega) (by omega) (chk_i tfR (tf (fun hd => ?_) fun hd => ?_)))
    · refine chk_i (by omega) (ite_i (fun h10 => ?_) fun h10 => ?_)
      · exact chk_i (by omega) (ite_i (fun _ => chk_i (by omega) (okg (.inl ⟨h43, rfl, hd.1, hd.2, h10⟩) fun E h q => k1 E h q)) fun h => absurd h43 h)
      · exact chk_i (by omega) (ite_i (fun _ => chk_i (by omega) (badg fun E q => k0 E (none43 (by omega)) q)) fun h => absurd h43 h)
    · exact chk_i (by omega) (ite_i (fun _ => chk_i (by omega) (badg fun E q => k0 E (none43 (by omega)) q)) fun h => absurd h43 h)
  · refine chk_i (by omega) (chk_i (by omega) (ite_i (fun p1 => ?_) fun p1 => ?_))
    · refine c110 (by omega) (by omega) (by omega) (chk_i (by omega) (ite_i (fun h => absurd h h43) fun _ => chk_i (by omega) ?_))
      by_cases hd : 48 ≤ c ∧ c ≤ 51
      · rw [if_pos hd]
        exact okg (.inr ⟨h43, rfl, hd.1, fun _ => hd.2, by omega⟩) fun E h q => chk_i (.inr rfl) (k1 E h q)
      · rw [if_neg hd]
        refine badg fun E q => chk_i (.inl rfl) (k0 E ?_ q)
        unfold zOp1
        rw [if_neg (show ¬ (zOf D).1 7 = 43 from h43), if_pos (show (zOf D).1 6 = 1 from p1), if_neg hd]
    · refine c110 (by omega) (by omega) (by omega) (chk_i (by omega) (ite_i (fun h => absurd h h43) fun _ => chk_i (by omega) ?_))
      by_cases hd : 48 ≤ c ∧ c ≤ 53
      · rw [if_pos hd]
        exact okg (.inr ⟨h43, rfl, hd.1, fun h => absurd h p1, hd.2⟩) fun E h q => chk_i (.inr rfl) (k1 E h q)
      · rw [if_neg hd]
        refine badg fun E q => chk_i (.inl rfl) (k0 E ?_ q)
        unfold zOp1
        rw [if_neg (show ¬ (zOf D).1 7 = 43 from h43), if_neg (show ¬ (zOf D).1 6 = 1 from p1), if_neg hd]
theorem c119 {c : Int} (hc : 1 ≤ c ∧ c ≤ 126) (hz : zV (zOf D)) (h5 : ¬ D 28 5 = 0) (h6 : D 28 6 = 0) (k1 : ∀ E, zStep (zOf D) c = some (zOf E) → SQ D E → Q 1 t E) (k0 : ∀ E, zStep (zOf D) c = none → SQ D E → Q 0 t E) : wp S 119 0 [some (qs 28), some (qi c)] [] t D Q := by
  obtain ⟨z2, z3, z4, z5, z8, z9, za, zb, zc⟩ := hz
  have z2 : 0 ≤ D 28 2 ∧ D 28 2 ≤ 2 := z2
  have z4 : 0 ≤ D 28 4 ∧ D 28 4 ≤ 3 := z4
  have e : zStep (zOf D) c = zPd0 (zOf D) c := by unfold zStep; rw [if_neg (show ¬ (zOf D).1 5 = 0 from h5), if_pos (show (zOf D).1 6 = 0 from h6)]
  rw [e] at k1 k0
  have hk := zKind_r c
  have n1 : ¬ (c = 47 ∧ D 28 2 < 2) → zKind c = -1 → Q 0 t D := fun h1 h2 => k0 D (by unfold zPd0; rw [if_neg (show ¬ (c = 47 ∧ (zOf D).1 2 < 2) from h1), if_pos h2]) SQ.rfl'
  have n2 : ¬ (c = 47 ∧ D 28 2 < 2) → D 28 4 = 3 → Q 0 t D := fun h1 h2 => k0 D (by
    unfold zPd0; rw [if_neg (show ¬ (c = 47 ∧ (zOf D).1 2 < 2) from h1)]
    by_cases h3 : zKind c = -1
    · rw [if_pos h3]
    · rw [if_neg h3, if_pos (show (zOf D).1 4 = 3 from h2)]) SQ.rfl'
  have y : ¬ (c = 47 ∧ D 28 2 < 2) → ¬ zKind c = -1 → ¬ D 28 4 = 3 → Q 1 t (up (up D 33 (15 * D 28 2 + 5 * D 28 4) (zKind c)) 28 6 1) := fun h1 h2 h3 => k1 _ (by
    unfold zPd0; rw [if_neg (show ¬ (c = 47 ∧ (zOf D).1 2 < 2) from h1), if_neg h2, if_neg (show ¬ (zOf D).1 4 = 3 from h3)]
    simp only [zOf, up_eq, upr_u, upr_s, upr_b, Nat.reduceBEq]) ((SQ.rfl'.uS (by decide)).u28 (by decide))
  have rest : ¬ (c = 47 ∧ D 28 2 < 2) → wp S 113 0 [some (qi c)] [] t D (fun x2 t2 D2 => chk (qR x2) (if x2 = (-1) then Q 0 t2 D2 else chk (qR (D2 28 4)) (if (D2 28 4) = 3 then Q 0 t2 D2 else wp S 113 0 [some (qi c)] [] t2 D2 (fun x3 t3 D3 => chk (0 ≤ ((15 * (D2 28 2)) + (5 * (D2 28 4))) ∧ ((15 * (D2 28 2)) + (5 * (D2 28 4))) < 45) (Q 1 t3 (up (up D3 33 ((15 * (D2 28 2)) + (5 * (D2 28 4))) x3) 28 6 1)))))) := fun h1 =>
    c113 (by omega) (chk_i (by omega) (ite_i (fun h2 => n1 h1 h2) fun h2 => chk_i (by omega) (ite_i (fun h3 => n2 h1 h3) fun h3 => c113 (by omega) (chk_i (by omega) (y h1 h2 h3)))))
  refine b119_0 (chk_i (by omega) (ite_i (fun h47 => chk_i (by omega) (ite_i (fun h2 => ?_) fun h2 => rest fun z => h2 z.2)) fun h47 => rest fun z => h47 z.1))
  have e2 : up (up D 28 2 (D 28 2 + 1)) 30 (D 28 2 + 1) 0 28 2 = D 28 2 + 1 := rfl
  rw [e2]
  refine chk_i (by omega) (chk_i (by omega) (b114_0 (k1 _ ?_ (((((((((SQ.rfl'.u28 (by decide)).uS (by decide)).uS (by decide)).u28 (by decide)).u28 (by decide)).u28 (by decide)).u28 (by decide)).u28 (by decide)).u28 (by decide)))))
  unfold zPd0
  rw [if_pos (show c = 47 ∧ (zOf D).1 2 < 2 from ⟨h47, h2⟩)]
  simp only [zOf, zBeg, up_eq, upr_u, upr_s, upr_b, Nat.reduceBEq]
theorem c120 {c : Int} (hc : 1 ≤ c ∧ c ≤ 126) (hz : zV (zOf D)) (h5 : ¬ D 28 5 = 0) (h6 : ¬ D 28 6 = 0) (k1 : ∀ E, zStep (zOf D) c = some (zOf E) → SQ D E → Q 1 t E) (k0 : ∀ E, zStep (zOf D) c = none → SQ D E → Q 0 t E) : wp S 120 0 [some (qs 28), some (qi c), none, none] [] t D Q := by
  obtain ⟨z2, z3, z4, z5, z8, z9, za, zb, zc⟩ := hz
  have z2 : 0 ≤ D 28 2 ∧ D 28 2 ≤ 2 := z2
  have z4 : 0 ≤ D 28 4 ∧ D 28 4 ≤ 3 := z4
  have z5 : D 28 5 = 0 ∨ D 28 5 = 1 := z5
  have zb : 0 ≤ D 28 6 ∧ D 28 6 ≤ 4 ∧ (D 28 6 = 0 ∨ D 28 4 < 3) := zb (show D 28 5 = 1 by omega)
  have zc : D 28 6 = 2 → 0 ≤ D 33 (15 * D 28 2 + 5 * D 28 4 + 1) ∧ D 33 (15 * D 28 2 + 5 * D 28 4 + 1) ≤ 9 := zc (show D 28 5 = 1 by omega)
  have e : zStep (zOf D) c = zPd1 (zOf D) c := by unfold zStep; rw [if_neg (show ¬ (zOf D).1 5 = 0 from h5), if_neg (show ¬ (zOf D).1 6 = 0 from h6)]
  rw [e] at k1 k0
  have r6 : ∀ x, up D 33 (15 * D 28 2 + 5 * D 28 4 + D 28 6) x 28 6 = D 28 6 := fun _ => rfl
  have r2 : ∀ x, up D 33 (15 * D 28 2 + 5 * D 28 4 + D 28 6) x 28 2 = D 28 2 := fun _ => rfl
  have r4 : ∀ x, up D 33 (15 * D 28 2 + 5 * D 28 4 + D 28 6) x 28 4 = D 28 4 := fun _ => rfl
  have good : (48 ≤ c ∧ c ≤ 57 ∧ (D 28 6 = 3 → c ≤ 52) ∧ (D 28 6 = 2 → D 33 (15 * D 28 2 + 5 * D 28 4 + 1) ≤ c - 48)) →
      chk (qR (D 28 6 + 1)) (if D 28 6 + 1 = 5 then chk (0 ≤ D 28 2 ∧ D 28 2 < 3) (Q 1 t (up (up (up (up (up D 33 (15 * D 28 2 + 5 * D 28 4 + D 28 6) (c - 48)) 28 6 (D 28 6 + 1)) 28 6 0) 28 4 (D 28 4 + 1)) 31 (D 28 2) (D 28 4 + 1))) else Q 1 t (up (up D 33 (15 * D 28 2 + 5 * D 28 4 + D 28 6) (c - 48)) 28 6 (D 28 6 + 1))) := fun h => by
    refine chk_i (by omega) (ite_i (fun h3 => chk_i (by omega) (k1 _ ?_ (((((SQ.rfl'.uS (by decide)).u28 (by decide)).u28 (by decide)).u28 (by decide)).uS (by decide)))) fun h3 => k1 _ ?_ ((SQ.rfl'.uS (by decide)).u28 (by decide)))
    · have h4 : D 28 6 = 4 := by omega
      unfold zPd1
      rw [if_pos (show 48 ≤ c ∧ c ≤ 57 ∧ ((zOf D).1 6 = 3 → c ≤ 52) ∧ ((zOf D).1 6 = 2 → (zOf D).2.2.2.2 (15 * (zOf D).1 2 + 5 * (zOf D).1 4 + 1) ≤ c - 48) from h), if_pos (show (zOf D).1 6 = 4 from h4)]
      simp only [zOf, up_eq, upr_u, upr_s, upr_b, Nat.reduceBEq, ui_u, h4]
    · unfold zPd1
      rw [if_pos (show 48 ≤ c ∧ c ≤ 57 ∧ ((zOf D).1 6 = 3 → c ≤ 52) ∧ ((zOf D).1 6 = 2 → (zOf D).2.2.2.2 (15 * (zOf D).1 2 + 5 * (zOf D).1 4 + 1) ≤ c - 48) from h), if_neg (show ¬ (zOf D).1 6 = 4 by show ¬ D 28 6 = 4; omega)]
      simp only [zOf, up_eq, upr_u, upr_s, upr_b, Nat.reduceBEq]
  have bad : ¬ (48 ≤ c ∧ c ≤ 57 ∧ (D 28 6 = 3 → c ≤ 52) ∧ (D 28 6 = 2 → D 33 (15 * D 28 2 + 5 * D 28 4 + 1) ≤ c - 48)) →
      chk (qR (D 28 6 + 1)) (if D 28 6 + 1 = 5 then chk (0 ≤ D 28 2 ∧ D 28 2 < 3) (Q 0 t (up (up (up (up (up D 33 (15 * D 28 2 + 5 * D 28 4 + D 28 6) (c - 48)) 28 6 (D 28 6 + 1)) 28 6 0) 28 4 (D 28 4 + 1)) 31 (D 28 2) (D 28 4 + 1))) else Q 0 t (up (up D 33 (15 * D 28 2 + 5 * D 28 4 + D 28 6) (c - 48)) 28 6 (D 28 6 + 1))) := fun h => by
    have hn : zPd1 (zOf D) c = none := by
      unfold zPd1
      rw [if_neg (show ¬ (48 ≤ c ∧ c ≤ 57 ∧ ((zOf D).1 6 = 3 → c ≤ 52) ∧ ((zOf D).1 6 = 2 → (zOf D).2.2.2.2 (15 * (zOf D).1 2 + 5 * (zOf D).1 4 + 1) ≤ c - 48)) from h)]
    exact chk_i (by omega) (ite_i (fun h3 => chk_i (by omega) (k0 _ hn (((((SQ.rfl'.uS (by decide)).u28 (by decide)).u28 (by decide)).u28 (by decide)).uS (by decide)))) fun h3 => k0 _ hn ((SQ.rfl'.uS (by decide)).u28 (by decide)))
  refine b120_0 (chk_i (by omega) (chk_i (by omega) ?_))
  rw [r6]
  refine chk_i (by omega) (ite_i (fun h3 => c110 (by omega) (by omega) (by omega) ?_) fun h3 => c110 (by omega) (by omega) (by omega) ?_)
  · rw [r6, r2, r4]
    refine chk_i tfR (tf (fun hd => ?_) fun hd => bad fun z => hd ⟨z.1, z.2.2.1 h3⟩)
    refine chk_i (by omega) (ite_i (fun h => absurd h (by omega)) fun _ => good ⟨hd.1, by omega, fun _ => hd.2, fun h => absurd h (by omega)⟩)
  · rw [r6, r2, r4]
    refine chk_i tfR (tf (fun hd => ?_) fun hd => bad fun z => hd ⟨z.1, z.2.1⟩)
    refine chk_i (by omega) (ite_i (fun h => ?_) fun h => good ⟨hd.1, hd.2, fun h' => absurd h' h3, fun h' => absurd h' h⟩)
    have e1 : up D 33 (15 * D 28 2 + 5 * D 28 4 + D 28 6) (c - 48) 33 (15 * D 28 2 + 5 * D 28 4 + D 28 6) = c - 48 := by rw [up_eq, upr_s, ui_s]
    have e2 : up D 33 (15 * D 28 2 + 5 * D 28 4 + D 28 6) (c - 48) 33 (15 * D 28 2 + 5 * D 28 4 + D 28 6 - 1) = D 33 (15 * D 28 2 + 5 * D 28 4 + 1) := by
      rw [up_eq, upr_s, ui_n (by omega), h]; congr 1; omega
    have zc := zc h
    rw [e1, e2]
    refine chk_i (by omega) (chk_i (by omega) (chk_i (by omega) (chk_i (by omega) (ite_i (fun hl => bad fun z => ?_) fun hl => good ⟨hd.1, hd.2, fun h' => absurd h' h3, fun _ => by omega⟩))))
    have := z.2.2.2 h
    omega
theorem c121 {i : Int} (hi : 0 ≤ i ∧ i < 100) (hc : 1 ≤ D 29 i ∧ D 29 i ≤ 126) (hz : zV (zOf D)) (k1 : ∀ E, zStep (zOf D) (D 29 i) = some (zOf E) → SQ D E → Q 1 t E) (k0 : ∀ E, zStep (zOf D) (D 29 i) = none → SQ D E → Q 0 t E) : wp S 121 0 [some (qs 28), some (qi i), none] [] t D Q := by
  have z5 : D 28 5 = 0 ∨ D 28 5 = 1 := hz.2.2.2.1
  have za : D 28 5 = 0 → D 28 6 = 0 ∨ (D 28 3 < 8 ∧ ((D 28 7 = 43 ∧ D 28 6 = 1) ∨ (D 28 7 = 117 ∧ D 28 6 = 1) ∨ (D 28 7 = 115 ∧ (D 28 6 = 1 ∨ D 28 6 = 2)))) := hz.2.2.2.2.2.2.1
  have zb : D 28 5 = 1 → 0 ≤ D 28 6 ∧ D 28 6 ≤ 4 ∧ (D 28 6 = 0 ∨ D 28 4 < 3) := hz.2.2.2.2.2.2.2.1
  refine b121_0 (chk_i hi (chk_i (by omega) (ite_i (fun h5 => ?_) fun h5 => ?_)))
  · have za := za h5
    refine chk_i (by omega) (ite_i (fun h6 => c117 hc hz h5 h6 ?_ ?_) fun h6 => c118 hc hz h5 h6 ?_ ?_)
    · exact fun E h q => chk_i (.inr rfl) (k1 E h q)
    · exact fun E h q => chk_i (.inl rfl) (k0 E h q)
    · exact fun E h q => chk_i (.inr rfl) (k1 E h q)
    · exact fun E h q => chk_i (.inl rfl) (k0 E h q)
  · have zb := zb (by omega)
    refine chk_i (by omega) (ite_i (fun h6 => c119 hc hz h5 h6 ?_ ?_) fun h6 => c120 hc hz h5 h6 ?_ ?_)
    · exact fun E h q => chk_i (.inr rfl) (k1 E h q)
    · exact fun E h q => chk_i (.inl rfl) (k0 E h q)
    · exact fun E h q => chk_i (.inr rfl) (k1 E h q)
    · exact fun E h q => chk_i (.inl rfl) (k0 E h q)
end RK
