/-! ## the class's undo, image, restore -/
theorem HR.pop {t t' : qT} {k h p : Nat} {D D' : qD} {U : Int → Int} {nf m : Int} (H : HR t D k nf h p U m) (hm : 1 ≤ m) (hk : KI t t' D D') (hP : t'.2.1 p = t.2.1 p) (h1 : D' h 1 = (D h 1 + 30 - 1) % 30) (h2 : D' h 2 = m - 1) : HR t' D' k nf h p U (m - 1) ∧ HC t D k nf (t.2.1 p ((D h 1 + 30 - 1) % 30)) (fun i => U (110 * (m - 1) + i)) := by
  obtain ⟨g1, g2, g3, g4, g5⟩ := H
  refine ⟨⟨h2, by omega, by omega, fun i a b => ?_, fun j a b => ?_⟩, ?_⟩
  · rw [hP]
    refine (g4 i a b).imp id fun z => ?_
    rw [(hk.2 _ z.2).1]
    exact ⟨z.1, z.2.ki hk⟩
  · rw [hP, h1]
    have := (g5 j a (by omega)).ki hk
    rw [show (D h 1 + 30 - m + j) % 30 = ((D h 1 + 30 - 1) % 30 + 30 - (m - 1) + j) % 30 by omega] at this
    exact this
  · have := g5 (m - 1) (by omega) (by omega)
    rw [show (D h 1 + 30 - m + (m - 1)) % 30 = (D h 1 + 30 - 1) % 30 by omega] at this
    exact this
theorem HR.cp {t t' : qT} {k h p h' p' : Nat} {D D' : qD} {U V : Int → Int} {nf m : Int} (H : HR t D k nf h p U m) (hk : KI t t' D D') (hP : ∀ i, 0 ≤ i → i < 30 → t'.2.1 p' i = t.2.1 p i) (h1 : D' h' 1 = D h 1) (h2 : D' h' 2 = D h 2) (hU : ∀ i, 0 ≤ i → i < 110 * m → V i = U i) : HR t' D' k nf h' p' V m := by
  obtain ⟨g1, g2, g3, g4, g5⟩ := H
  unfold HR
  rw [h1, h2]
  refine ⟨g1, g2, g3, fun i a b => ?_, fun j a b => ?_⟩
  · rw [hP i a b]
    refine (g4 i a b).imp id fun z => ?_
    rw [(hk.2 _ z.2).1]
    exact ⟨z.1, z.2.ki hk⟩
  · rw [hP _ (by omega) (by omega)]
    exact ((g5 j a b).ki hk).cg fun i c d => hU _ (by omega) (by omega)
theorem SRl.cp {D D' : qD} {s x y z s' x' y' z' : Nat} {sg sh : Int → Int} {m : Int} (h : SRl D s x y z sg m) (hm : m ≤ 6) (e : D' s' 3 = D s 3) (f : ∀ i, 0 ≤ i → i < 6 → D' x' i = D x i ∧ D' y' i = D y i ∧ D' z' i = D z i) (hg : ∀ i, 0 ≤ i → i < 24 → sh i = sg i) : SRl D' s' x' y' z' sh m := by
  unfold SRl
  rw [e]
  refine ⟨h.1, fun i a b => ?_⟩
  rw [hg (4 * i) (by omega) (by omega), hg (4 * i + 1) (by omega) (by omega), hg (4 * i + 2) (by omega) (by omega), hg (4 * i + 3) (by omega) (by omega), (f i a (by omega)).1, (f i a (by omega)).2.1, (f i a (by omega)).2.2]
  exact h.2 i a b
section KK
variable {S : (Nat → Int32) × Nat} {t : qT} {D G : qD} {Q : Int → qT → qD → Prop} {k a : Nat} {N : Int → Int}
theorem q_cp6 {f g : Int → Int} {i : Int} (a : 0 ≤ i) (b : i < 6) : q_cp f g 0 0 6 i = f i := by
  unfold q_cp
  rw [if_pos (by omega), show (0 : Int) + (i - 0) = i by omega]
end KK
