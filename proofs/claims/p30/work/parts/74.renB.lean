section RP
variable {pg om pm op pd om' pm' op' pd' : Int → Int} {f b i : Int} {n M O : Nat}
theorem zDig_r (v : Int) : 0 ≤ zDig v ∧ zDig v ≤ 2 := by unfold zDig; (repeat' split) <;> omega
theorem zStep_ren0 {s s' : zS} (hz : zV s) (H : REN pg i s) (h5 : s.1 5 = 0) (h6 : s.1 6 = 0) (e : zOp0 s (pg i) = some s') : REN pg (i + 1) s' := by
  obtain ⟨M, O, e2, e3, hR⟩ := H
  have hO := hz.2.1
  have h9 := hz.2.2.2.2.2.1
  have h8 := hz.2.2.2.2.1
  unfold zOp0 at e
  rw [e2, e3] at e
  rw [h5, h6] at hR
  obtain ⟨h1, h2, ⟨h3, h4, ha, hl⟩, hA, hB⟩ := id hR
  obtain ⟨p0, pi, -, -⟩ := hA rfl
  generalize hc : pg i = c at e
  rw [Int.add_zero] at pi
  rw [pi] at hc
  split at e
  · rename_i c59
    cases e
    refine ⟨M, O, e2, e3, h1, h2, ⟨h3, h4, ha, hl⟩, fun z => absurd (show (1 : Int) = 0 from z) (by decide), fun _ => ⟨by rw [hc, c59], ?_, ?_, fun z => ?_, fun w a b => ?_⟩⟩
    · intro p a b
      have b : p < s.1 4 := b
      exact absurd b (by omega)
    · show i + 1 = fPos s.2.1 s.2.2.1 s.2.2.2.1 M + oLen s.2.2.2.1 M O + 1 + 5 * s.1 4 + s.1 6
      omega
    · have z : 1 ≤ s.1 6 := z
      exact absurd z (by omega)
    · have b : w < s.1 6 := b
      exact absurd b (by omega)
  · split at e
    · cases e
    · rename_i c59 c8
      split at e
      · rename_i cc
        cases e
        have ho : ∀ x, x ≠ 24 * (M : Int) + 3 * O → ui s.2.2.2.1 (24 * (M : Int) + 3 * O) c x = s.2.2.2.1 x := fun x hx => ui_n hx
        have k := FUL.cg (om' := s.2.1) (pm' := s.2.2.1) (op' := ui s.2.2.2.1 (24 * (M : Int) + 3 * O) c) (pd' := s.2.2.2.2) h1 (fun x a b => ⟨rfl, rfl⟩) (fun x a b => ho x (by omega)) fun _ _ _ => rfl
        have eo : oLen (ui s.2.2.2.1 (24 * (M : Int) + 3 * O) c) M O = oLen s.2.2.2.1 M O := oLen_cg fun x a b => ho x (by omega)
        refine ⟨M, O, e2, e3, k.1, ?_, ⟨h3, h4, ?_, ?_⟩, fun _ => ⟨p0, ?_, fun _ => ⟨ui_s, ?_⟩, fun z => absurd (show (1 : Int) = 2 from z) (by decide)⟩, fun z => ?_⟩
        · show OPS pg (ui s.2.2.2.1 (24 * (M : Int) + 3 * O) c) M (fPos s.2.1 s.2.2.1 (ui s.2.2.2.1 (24 * (M : Int) + 3 * O) c) M) O
          rw [k.2]; exact h2.cg fun x a b => ho x (by omega)
        · exact (adN_cg fun x a b => ho x (by omega)).trans ha
        · exact (dN_cg fun x a b => ho x (by omega)).trans hl
        · show i + 1 = fPos s.2.1 s.2.2.1 (ui s.2.2.2.1 (24 * (M : Int) + 3 * O) c) M + oLen (ui s.2.2.2.1 (24 * (M : Int) + 3 * O) c) M O + 1
          rw [k.2, eo]; omega
        · show pg (fPos s.2.1 s.2.2.1 (ui s.2.2.2.1 (24 * (M : Int) + 3 * O) c) M + oLen (ui s.2.2.2.1 (24 * (M : Int) + 3 * O) c) M O) = c
          rw [k.2, eo]; exact hc
        · have z : s.1 5 = 1 := z
          exact absurd z (by omega)
      · have es : ∀ v, ui s.2.2.2.1 (24 * (M : Int) + 3 * O) v (24 * (M : Int) + 3 * O) = v := fun v => ui_s
        split at e
        · rename_i ncc cc
          cases e
          have hF := RENx.fin (op' := ui s.2.2.2.1 (24 * (M : Int) + 3 * O) c) (ad' := s.1 8) (ly' := s.1 9 + 1) (c7' := c) (l := 0) (by rw [p0] at hR; exact hR) (by omega) (fun x a b => ui_n (by omega)) (.inr (.inr (.inr (.inl (by rw [es]; exact cc.1))))) (by rw [es]; exact hc) (fun x a b => by
            rw [es, cc.1] at b; exact absurd (show x ≤ 0 from b) (by omega)) (by rw [es, cc.1]; show i = _ + 0; omega) (by rw [es, cc.1, if_neg (by decide)]; omega) (by omega) (by rw [es, cc.1, if_pos rfl]) (by omega)
          refine ⟨M, O + 1, e2, ?_, ?_⟩
          · show s.1 3 + 1 = _; omega
          · show RENx pg (i + 1) M (O + 1) (s.1 4) (s.1 5) 0 c (s.1 8) (s.1 9 + 1) (ui s.2.1 (s.1 2) (s.1 3 + 1)) s.2.2.1 (ui s.2.2.2.1 (24 * (M : Int) + 3 * O) c) s.2.2.2.2
            rw [p0, h5, e2, e3]; exact hF
        · split at e
          · rename_i ncc nc1 cc
            cases e
            have hF := RENx.fin (op' := ui s.2.2.2.1 (24 * (M : Int) + 3 * O) c) (ad' := s.1 8) (ly' := s.1 9 + -1) (c7' := c) (l := 0) (by rw [p0] at hR; exact hR) (by omega) (fun x a b => ui_n (by omega)) (.inr (.inr (.inr (.inr (by rw [es]; exact cc.1))))) (by rw [es]; exact hc) (fun x a b => by
              rw [es, cc.1] at b; exact absurd (show x ≤ 0 from b) (by omega)) (by rw [es, cc.1]; show i = _ + 0; omega) (by rw [es, cc.1, if_neg (by decide)]; omega) (by omega) (by rw [es, cc.1, if_neg (by decide), if_pos rfl]) (by omega)
            refine ⟨M, O + 1, e2, ?_, ?_⟩
            · show s.1 3 + 1 = _; omega
            · show RENx pg (i + 1) M (O + 1) (s.1 4) (s.1 5) 0 c (s.1 8) (s.1 9 + -1) (ui s.2.1 (s.1 2) (s.1 3 + 1)) s.2.2.1 (ui s.2.2.2.1 (24 * (M : Int) + 3 * O) c) s.2.2.2.2
              rw [p0, h5, e2, e3]; exact hF
          · cases e
theorem zStep_ren1 {s s' : zS} (hz : zV s) (H : REN pg i s) (h5 : s.1 5 = 0) (h6 : ¬ s.1 6 = 0) (e : zOp1 s (pg i) = some s') : REN pg (i + 1) s' := by
  obtain ⟨M, O, e2, e3, hR⟩ := H
  have hO := hz.2.1
  have h9 := hz.2.2.2.2.2.1
  have h8 := hz.2.2.2.2.1
  have hq := (hz.2.2.2.2.2.2.1 h5).resolve_left h6
  unfold zOp1 at e
  rw [e2, e3] at e
  rw [h5] at hR
  obtain ⟨h1, h2, ⟨h3, h4, ha, hl⟩, hA, hB⟩ := id hR
  obtain ⟨p0, pi, q1, q2⟩ := hA rfl
  have q1 := q1 (by omega)
  generalize hc : pg i = c at e
  rw [p0] at hR
  split at e
  · rename_i c43
    have l1 : s.1 6 = 1 := by omega
    rw [l1] at e pi
    split at e
    · rename_i cc
      cases e
      have ho : ∀ x, x ≠ 24 * (M : Int) + 3 * O + 1 → ui s.2.2.2.1 (24 * (M : Int) + 3 * O + 1) (c - 48) x = s.2.2.2.1 x := fun x hx => ui_n hx
      have e0 : ui s.2.2.2.1 (24 * (M : Int) + 3 * O + 1) (c - 48) (24 * (M : Int) + 3 * O) = 43 := by rw [ho _ (by omega), q1.1, c43]
      have e1 : ui s.2.2.2.1 (24 * (M : Int) + 3 * O + 1) (c - 48) (24 * (M : Int) + 3 * O + 1) = c - 48 := ui_s
      have hF := RENx.fin (op' := ui s.2.2.2.1 (24 * (M : Int) + 3 * O + 1) (c - 48)) (ad' := s.1 8 + (c - 48)) (ly' := s.1 9) (c7' := s.1 7) hR (by omega) (fun x a b => ho x (by omega)) (.inl (by rw [e0, e1]; omega)) (by rw [e0, q1.2, c43]) (fun x a b => by
        rw [e0] at b
        have b : x ≤ 1 := b
        obtain rfl : x = 1 := by omega
        rw [e1, ← pi, hc]; omega) (by rw [e0]; exact pi) (by rw [e0, if_pos rfl, e1]) (by omega) (by rw [e0, if_neg (by decide), if_neg (by decide)]; omega) (by omega)
      refine ⟨M, O + 1, e2, ?_, ?_⟩
      · show s.1 3 + 1 = _; omega
      · show RENx pg (i + 1) M (O + 1) (s.1 4) (s.1 5) 0 (s.1 7) (s.1 8 + (c - 48)) (s.1 9) (ui s.2.1 (s.1 2) (s.1 3 + 1)) s.2.2.1 (ui s.2.2.2.1 (24 * (M : Int) + 3 * O + 1) (c - 48)) s.2.2.2.2
        rw [p0, h5, e2, e3]; exact hF
    · cases e
  · rename_i c43
    split at e
    · rename_i l1
      rw [l1] at pi
      split at e
      · rename_i cc
        have ho : ∀ x, x ≠ 24 * (M : Int) + 3 * O + 1 → ui s.2.2.2.1 (24 * (M : Int) + 3 * O + 1) (c - 48) x = s.2.2.2.1 x := fun x hx => ui_n hx
        have e0 : ui s.2.2.2.1 (24 * (M : Int) + 3 * O + 1) (c - 48) (24 * (M : Int) + 3 * O) = s.1 7 := by rw [ho _ (by omega), q1.1]
        have e1 : ui s.2.2.2.1 (24 * (M : Int) + 3 * O + 1) (c - 48) (24 * (M : Int) + 3 * O + 1) = c - 48 := ui_s
        split at e
        · rename_i c115
          cases e
          have k := FUL.cg (om' := s.2.1) (pm' := s.2.2.1) (op' := ui s.2.2.2.1 (24 * (M : Int) + 3 * O + 1) (c - 48)) (pd' := s.2.2.2.2) h1 (fun x a b => ⟨rfl, rfl⟩) (fun x a b => ho x (by omega)) fun _ _ _ => rfl
          have eo : oLen (ui s.2.2.2.1 (24 * (M : Int) + 3 * O + 1) (c - 48)) M O = oLen s.2.2.2.1 M O := oLen_cg fun x a b => ho x (by omega)
          refine ⟨M, O, e2, e3, k.1, ?_, ⟨h3, h4, ?_, ?_⟩, fun _ => ⟨p0, ?_, fun _ => ⟨e0, ?_⟩, fun z => ⟨?_, ?_⟩⟩, fun z => ?_⟩
          · show OPS pg (ui s.2.2.2.1 (24 * (M : Int) + 3 * O + 1) (c - 48)) M (fPos s.2.1 s.2.2.1 (ui s.2.2.2.1 (24 * (M : Int) + 3 * O + 1) (c - 48)) M) O
            rw [k.2]; exact h2.cg fun x a b => ho x (by omega)
          · exact (adN_cg fun x a b => ho x (by omega)).trans ha
          · exact (dN_cg fun x a b => ho x (by omega)).trans hl
          · show i + 1 = fPos s.2.1 s.2.2.1 (ui s.2.2.2.1 (24 * (M : Int) + 3 * O + 1) (c - 48)) M + oLen (ui s.2.2.2.1 (24 * (M : Int) + 3 * O + 1) (c - 48)) M O + 2
            rw [k.2, eo]; omega
          · show pg (fPos s.2.1 s.2.2.1 (ui s.2.2.2.1 (24 * (M : Int) + 3 * O + 1) (c - 48)) M + oLen (ui s.2.2.2.1 (24 * (M : Int) + 3 * O + 1) (c - 48)) M O) = s.1 7
            rw [k.2, eo]; exact q1.2
          · show pg (fPos s.2.1 s.2.2.1 (ui s.2.2.2.1 (24 * (M : Int) + 3 * O + 1) (c - 48)) M + oLen (ui s.2.2.2.1 (24 * (M : Int) + 3 * O + 1) (c - 48)) M O + 1) = 48 + ui s.2.2.2.1 (24 * (M : Int) + 3 * O + 1) (c - 48) (24 * (M : Int) + 3 * O + 1)
            rw [k.2, eo, e1, ← pi, hc]; omega
          · show 0 ≤ ui s.2.2.2.1 (24 * (M : Int) + 3 * O + 1) (c - 48) (24 * (M : Int) + 3 * O + 1) ∧ ui s.2.2.2.1 (24 * (M : Int) + 3 * O + 1) (c - 48) (24 * (M : Int) + 3 * O + 1) ≤ 3
            rw [e1]; omega
          · have z : s.1 5 = 1 := z
            exact absurd z (by omega)
        · rename_i c115
          have c117 : s.1 7 = 117 := by omega
          cases e
          have hF := RENx.fin (op' := ui s.2.2.2.1 (24 * (M : Int) + 3 * O + 1) (c - 48)) (ad' := s.1 8) (ly' := s.1 9) (c7' := s.1 7) hR (by omega) (fun x a b => ho x (by omega)) (.inr (.inr (.inl (by rw [e0, e1]; omega)))) (by rw [e0, q1.2]) (fun x a b => by
            rw [e0, c117] at b
            have b : x ≤ 1 := b
            obtain rfl : x = 1 := by omega
            rw [e1, ← pi, hc]; omega) (by rw [e0, c117]; exact pi) (by rw [e0, if_neg c43]; omega) (by omega) (by rw [e0, if_neg (by omega), if_neg (by omega)]; omega) (by omega)
          refine ⟨M, O + 1, e2, ?_, ?_⟩
          · show s.1 3 + 1 = _; omega
          · show RENx pg (i + 1) M (O + 1) (s.1 4) (s.1 5) 0 (s.1 7) (s.1 8) (s.1 9) (ui s.2.1 (s.1 2) (s.1 3 + 1)) s.2.2.1 (ui s.2.2.2.1 (24 * (M : Int) + 3 * O + 1) (c - 48)) s.2.2.2.2
            rw [p0, h5, e2, e3]; exact hF
      · cases e
    · rename_i nl1
      have l2 : s.1 6 = 2 ∧ s.1 7 = 115 := by omega
      have q2 := q2 l2.1
      rw [l2.1] at pi
      split at e
      · rename_i cc
        cases e
        have ho : ∀ x, x ≠ 24 * (M : Int) + 3 * O + 2 → ui s.2.2.2.1 (24 * (M : Int) + 3 * O + 2) (c - 48) x = s.2.2.2.1 x := fun x hx => ui_n hx
        have e0 : ui s.2.2.2.1 (24 * (M : Int) + 3 * O + 2) (c - 48) (24 * (M : Int) + 3 * O) = 115 := by rw [ho _ (by omega), q1.1, l2.2]
        have e1 : ui s.2.2.2.1 (24 * (M : Int) + 3 * O + 2) (c - 48) (24 * (M : Int) + 3 * O + 1) = s.2.2.2.1 (24 * (M : Int) + 3 * O + 1) := ho _ (by omega)
        have e2' : ui s.2.2.2.1 (24 * (M : Int) + 3 * O + 2) (c - 48) (24 * (M : Int) + 3 * O + 2) = c - 48 := ui_s
        have hF := RENx.fin (op' := ui s.2.2.2.1 (24 * (M : Int) + 3 * O + 2) (c - 48)) (ad' := s.1 8) (ly' := s.1 9) (c7' := s.1 7) hR (by omega) (fun x a b => ho x (by omega)) (.inr (.inl (by rw [e0, e1, e2']; omega))) (by rw [e0, q1.2, l2.2]) (fun x a b => by
          rw [e0] at b
          have b : x ≤ 2 := b
          by_cases x1 : x = 1
          · rw [x1, e1]; exact q2.1
          · obtain rfl : x = 2 := by omega
            rw [e2', ← pi, hc]; omega) (by rw [e0]; exact pi) (by rw [e0, if_neg (by decide)]; omega) (by omega) (by rw [e0, if_neg (by decide), if_neg (by decide)]; omega) (by omega)
        refine ⟨M, O + 1, e2, ?_, ?_⟩
        · show s.1 3 + 1 = _; omega
        · show RENx pg (i + 1) M (O + 1) (s.1 4) (s.1 5) 0 (s.1 7) (s.1 8) (s.1 9) (ui s.2.1 (s.1 2) (s.1 3 + 1)) s.2.2.1 (ui s.2.2.2.1 (24 * (M : Int) + 3 * O + 2) (c - 48)) s.2.2.2.2
          rw [p0, h5, e2, e3]; exact hF
      · cases e
end RP
