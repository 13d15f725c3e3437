section RQ
variable {pg om pm op pd om' pm' op' pd' : Int → Int} {f b i : Int} {n M O : Nat}
theorem zStep_ren2 {s s' : zS} (hz : zV s) (H : REN pg i s) (h5 : s.1 5 = 1) (h6 : s.1 6 = 0) (e : zPd0 s (pg i) = some s') : REN pg (i + 1) s' := by
  obtain ⟨M, O, e2, e3, hR⟩ := H
  have hO := hz.2.1
  have hp := hz.2.2.1
  unfold zPd0 at e
  rw [e2] at e
  rw [h5, h6] at hR
  obtain ⟨h1, h2, ⟨h3, h4, ha, hl⟩, hA, hB⟩ := id hR
  obtain ⟨b0, b1, b2, -, -⟩ := hB rfl
  generalize hc : pg i = c at e
  rw [Int.add_zero] at b2
  have hto : (s.2.1 M).toNat = O := by omega
  split at e
  · rename_i cc
    cases e
    have hu : ∀ (g : Int → Int) x, x ≠ (M : Int) + 1 → ui g ((M : Int) + 1) 0 x = g x := fun g x hx => ui_n hx
    have hF : FUL pg s.2.1 s.2.2.1 s.2.2.2.1 s.2.2.2.2 M := by
      unfold FUL
      rw [hto, h4]
      exact ⟨by omega, h2, b0, b1⟩
    have hP : fPos s.2.1 s.2.2.1 s.2.2.2.1 (M + 1) = i + 1 := by
      unfold fPos
      rw [hto, h4]; omega
    have h1' : ∀ f : Nat, f < M + 1 → FUL pg s.2.1 s.2.2.1 s.2.2.2.1 s.2.2.2.2 f ∧ pg (fPos s.2.1 s.2.2.1 s.2.2.2.1 (f + 1) - 1) = 47 := fun f a => by
      by_cases c1 : f = M
      · rw [c1]
        refine ⟨hF, ?_⟩
        rw [hP, show i + 1 - 1 = i by omega, hc]; exact cc.1
      · exact h1 f (by omega)
    have k := FUL.cg (om' := ui s.2.1 ((M : Int) + 1) 0) (pm' := ui s.2.2.1 ((M : Int) + 1) 0) (op' := s.2.2.2.1) (pd' := s.2.2.2.2) h1' (fun x a b => ⟨hu _ x (by omega), hu _ x (by omega)⟩) (fun x a b => rfl) fun _ _ _ => rfl
    refine ⟨M + 1, 0, ?_, rfl, k.1, fun j hj => absurd hj (by omega), ⟨ui_s, ui_s, rfl, rfl⟩, fun _ => ⟨rfl, ?_, fun z => ?_, fun z => ?_⟩, fun z => ?_⟩
    · show s.1 2 + 1 = _; omega
    · show i + 1 = fPos (ui s.2.1 ((M : Int) + 1) 0) (ui s.2.2.1 ((M : Int) + 1) 0) s.2.2.2.1 (M + 1) + 0 + 0
      rw [k.2, hP]; omega
    · have z : (1 : Int) ≤ 0 := z
      exact absurd z (by decide)
    · have z : (0 : Int) = 2 := z
      exact absurd z (by decide)
    · have z : (0 : Int) = 1 := z
      exact absurd z (by decide)
  · split at e
    · cases e
    · rename_i cc ck
      split at e
      · cases e
      · rename_i c3
        cases e
        have hk := zKind_r c
        have ho : ∀ x, x ≠ 15 * (M : Int) + 5 * s.1 4 → ui s.2.2.2.2 (15 * (M : Int) + 5 * s.1 4) (zKind c) x = s.2.2.2.2 x := fun x hx => ui_n hx
        have k := FUL.cg (om' := s.2.1) (pm' := s.2.2.1) (op' := s.2.2.2.1) (pd' := ui s.2.2.2.2 (15 * (M : Int) + 5 * s.1 4) (zKind c)) h1 (fun x a b => ⟨rfl, rfl⟩) (fun x a b => rfl) fun x a b => ho x (by omega)
        refine ⟨M, O, e2, e3, k.1, h2, ⟨h3, h4, ha, hl⟩, fun z => ?_, fun _ => ⟨b0, b1.cg fun x a b => ho x (by omega), ?_, fun _ => ?_, fun w a b => ?_⟩⟩
        · have z : s.1 5 = 0 := z
          exact absurd z (by omega)
        · show i + 1 = fPos s.2.1 s.2.2.1 s.2.2.2.1 M + oLen s.2.2.2.1 M O + 1 + 5 * s.1 4 + 1
          omega
        · show PDK pg (ui s.2.2.2.2 (15 * (M : Int) + 5 * s.1 4) (zKind c)) M (fPos s.2.1 s.2.2.1 s.2.2.2.1 M + oLen s.2.2.2.1 M O + 1) (s.1 4)
          unfold PDK
          rw [ui_s, ← b2, hc]
          exact ⟨rfl, by omega⟩
        · have b : w < 1 := b
          exact absurd b (by omega)
theorem zStep_ren3 {s s' : zS} (hz : zV s) (H : REN pg i s) (h5 : s.1 5 = 1) (h6 : ¬ s.1 6 = 0) (e : zPd1 s (pg i) = some s') : REN pg (i + 1) s' := by
  obtain ⟨M, O, e2, e3, hR⟩ := H
  have hO := hz.2.1
  have hp := hz.2.2.1
  have hq := hz.2.2.2.2.2.2.2.1 h5
  unfold zPd1 at e
  rw [e2] at e
  rw [h5] at hR
  obtain ⟨h1, h2, ⟨h3, h4, ha, hl⟩, hA, hB⟩ := id hR
  obtain ⟨b0, b1, b2, b3, b4⟩ := hB rfl
  have b3 := b3 (by omega)
  generalize hc : pg i = c at e
  split at e
  · rename_i cc
    split at e
    · rename_i l4
      cases e
      rw [l4] at b2 b4
      have ho : ∀ x, x ≠ 15 * (M : Int) + 5 * s.1 4 + 4 → ui s.2.2.2.2 (15 * (M : Int) + 5 * s.1 4 + 4) (c - 48) x = s.2.2.2.2 x := fun x hx => ui_n hx
      have k := FUL.cg (om' := s.2.1) (pm' := ui s.2.2.1 (M : Int) (s.1 4 + 1)) (op' := s.2.2.2.1) (pd' := ui s.2.2.2.2 (15 * (M : Int) + 5 * s.1 4 + 4) (c - 48)) h1 (fun x a b => ⟨rfl, ui_n (by omega)⟩) (fun x a b => rfl) fun x a b => ho x (by omega)
      refine ⟨M, O, e2, e3, ?_⟩
      show RENx pg (i + 1) M O (s.1 4 + 1) (s.1 5) 0 (s.1 7) (s.1 8) (s.1 9) s.2.1 (ui s.2.2.1 (M : Int) (s.1 4 + 1)) s.2.2.2.1 (ui s.2.2.2.2 (15 * (M : Int) + 5 * s.1 4 + 4) (c - 48))
      refine ⟨k.1, by rw [k.2]; exact h2, ⟨h3, ui_s, ha, hl⟩, fun z => absurd z (by omega), fun _ => ?_⟩
      rw [k.2]
      refine ⟨b0, fun p a b => ?_, by omega, fun z => absurd z (by decide), fun w x y => absurd y (by omega)⟩
      by_cases c1 : p = s.1 4
      · rw [c1]
        refine ⟨?_, fun w x y => ?_⟩
        · unfold PDK; rw [ho _ (by omega)]; exact b3
        · by_cases w4 : w = 4
          · unfold PDW
            rw [w4, ui_s, ← b2, hc]
            omega
          · have := b4 w x (by omega)
            unfold PDW
            rw [ho _ (by omega)]; exact this
      · have := b1 p a (by omega)
        refine ⟨?_, fun w x y => ?_⟩
        · unfold PDK; rw [ho _ (by omega)]; exact this.1
        · unfold PDW; rw [ho _ (by omega)]; exact this.2 w x y
    · rename_i l4
      cases e
      have ho : ∀ x, x ≠ 15 * (M : Int) + 5 * s.1 4 + s.1 6 → ui s.2.2.2.2 (15 * (M : Int) + 5 * s.1 4 + s.1 6) (c - 48) x = s.2.2.2.2 x := fun x hx => ui_n hx
      have k := FUL.cg (om' := s.2.1) (pm' := s.2.2.1) (op' := s.2.2.2.1) (pd' := ui s.2.2.2.2 (15 * (M : Int) + 5 * s.1 4 + s.1 6) (c - 48)) h1 (fun x a b => ⟨rfl, rfl⟩) (fun x a b => rfl) fun x a b => ho x (by omega)
      refine ⟨M, O, e2, e3, ?_⟩
      show RENx pg (i + 1) M O (s.1 4) (s.1 5) (s.1 6 + 1) (s.1 7) (s.1 8) (s.1 9) s.2.1 s.2.2.1 s.2.2.2.1 (ui s.2.2.2.2 (15 * (M : Int) + 5 * s.1 4 + s.1 6) (c - 48))
      refine ⟨k.1, h2, ⟨h3, h4, ha, hl⟩, fun z => absurd z (by omega), fun _ => ⟨b0, b1.cg fun x a b => ho x (by omega), by omega, fun _ => ?_, fun w x y => ?_⟩⟩
      · unfold PDK; rw [ho _ (by omega)]; exact b3
      · by_cases w4 : w = s.1 6
        · unfold PDW
          rw [w4, ui_s, ← b2, hc]
          omega
        · have := b4 w x (by omega)
          unfold PDW
          rw [ho _ (by omega)]; exact this
  · cases e
theorem zStep_ren {s s' : zS} (hz : zV s) (H : REN pg i s) (e : zStep s (pg i) = some s') : REN pg (i + 1) s' := by
  unfold zStep at e
  have h5 := hz.2.2.2.1
  split at e
  · split at e
    · exact zStep_ren0 hz H (by assumption) (by assumption) e
    · exact zStep_ren1 hz H (by assumption) (by assumption) e
  · split at e
    · exact zStep_ren2 hz H (by omega) (by assumption) e
    · exact zStep_ren3 hz H (by omega) (by assumption) e
theorem zRun_ren {len : Int} (hpg : ∀ i, 0 ≤ i → i < len → 1 ≤ pg i ∧ pg i ≤ 126) : ∀ (n : Nat) (i : Int) (s : zS), 0 ≤ i → len ≤ i + n → i ≤ len → zV s → REN pg i s → ¬ (zRun pg len n i s).1 < len → ∃ s', (zRun pg len n i s).2 = some s' ∧ (zRun pg len n i s).1 = len ∧ REN pg len s' ∧ zV s' := by
  intro n
  induction n with
  | zero =>
    intro i s h0 h1 h2 hz H hn
    obtain rfl : i = len := by omega
    exact ⟨s, rfl, rfl, H, hz⟩
  | succ n ih =>
    intro i s h0 h1 h2 hz H hn
    unfold zRun at hn ⊢
    by_cases c : i < len
    · rw [if_pos c] at hn ⊢
      cases e : zStep s (pg i) with
      | none => rw [e] at hn; exact absurd c hn
      | some s' =>
        rw [e] at hn
        exact ih (i + 1) s' (by omega) (by omega) (by omega) (zV_step (hpg i h0 c) hz e) (zStep_ren hz H e) hn
    · rw [if_neg c] at hn ⊢
      obtain rfl : i = len := by omega
      exact ⟨s, rfl, rfl, H, hz⟩
theorem z0_ren (D : qD) : REN (D 29) 0 (z0 D) := by
  refine ⟨0, 0, rfl, rfl, fun f hf => absurd hf (by omega), fun j hj => absurd hj (by omega), ⟨rfl, rfl, rfl, rfl⟩, fun _ => ⟨rfl, rfl, fun z => ?_, fun z => ?_⟩, fun z => ?_⟩
  · have z : (1 : Int) ≤ 0 := z
    exact absurd z (by decide)
  · have z : (0 : Int) = 2 := z
    exact absurd z (by decide)
  · have z : (0 : Int) = 1 := z
    exact absurd z (by decide)
/-- the whole of what a good page says -/
def TXT (pg : Int → Int) (len : Int) (nf : Nat) (om pm op pd : Int → Int) : Prop := (1 ≤ nf ∧ nf ≤ 3) ∧ (∀ f : Nat, f < nf → FUL pg om pm op pd f) ∧ (∀ f : Nat, f + 1 < nf → pg (fPos om pm op (f + 1) - 1) = 47) ∧ fPos om pm op nf - 1 = len
theorem REN.txt {len : Int} {s : zS} (hz : zV s) (H : REN pg len s) (h5 : s.1 5 = 1) (h6 : s.1 6 = 0) : ∃ M : Nat, s.1 2 = M ∧ TXT pg len (M + 1) s.2.1 s.2.2.1 s.2.2.2.1 s.2.2.2.2 := by
  obtain ⟨M, O, e2, e3, hR⟩ := H
  have hO := hz.2.1
  have hp := hz.2.2.1
  have hm := hz.1
  rw [h5, h6] at hR
  obtain ⟨h1, h2, ⟨h3, h4, ha, hl⟩, hA, hB⟩ := hR
  obtain ⟨b0, b1, b2, -, -⟩ := hB rfl
  have hto : (s.2.1 M).toNat = O := by omega
  refine ⟨M, e2, by omega, fun f a => ?_, fun f a => (h1 f (by omega)).2, ?_⟩
  · by_cases c1 : f = M
    · rw [c1]
      unfold FUL
      rw [hto, h4]
      exact ⟨by omega, h2, b0, b1⟩
    · exact (h1 f (by omega)).1
  · unfold fPos
    rw [hto, h4]; omega
end RQ
