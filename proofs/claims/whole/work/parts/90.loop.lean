/-! ## between two calls of the law -/
def AGs (D E G : qD) : Prop := (∀ a, ¬ (28 ≤ a ∧ a < 49) → E a = D a) ∧ (∀ a, 28 < a → a < 49 → a ≠ 30 → a ≠ 31 → a ≠ 32 → a ≠ 33 → a ≠ 41 → a ≠ 45 → E a = G a) ∧
  (E 28 1 = G 28 1 ∧ E 28 14 = G 28 14 ∧ E 28 15 = G 28 15 ∧ E 28 27 = G 28 27 ∧ E 28 31 = G 28 31 ∧ E 28 35 = G 28 35 ∧ E 28 36 = G 28 36 ∧ E 28 37 = G 28 37)
theorem AGs.sq {D E F G : qD} (h : RG D F G) (k : SQ F E) : AGs D E G := by
  obtain ⟨k0, k1, k2, k3, k4, k5, k6, k7, k8⟩ := k
  refine ⟨fun a ha => ?_, fun a a1 a2 h30 h31 h32 h33 h41 h45 => ?_, ?_⟩
  · rw [k0 a (by omega) (by omega) (by omega) (by omega) (by omega) (by omega) (by omega)]; exact h.1 a ha
  · rw [k0 a (by omega) h30 h31 h32 h33 h41 h45]; exact h.2 a (by omega) a2
  · rw [k1, k2, k3, k4, k5, k6, k7, k8, h.2 28 (by decide) (by decide)]
    exact ⟨rfl, rfl, rfl, rfl, rfl, rfl, rfl, rfl⟩
theorem AGs.rv {D E G : qD} (h : AGs D E G) (hG : RVs G) : RVs E := by
  obtain ⟨-, hb, e1, e14, e15, e27, e31, -⟩ := h
  have g : ∀ a, 28 < a → a < 49 → a ≠ 30 → a ≠ 31 → a ≠ 32 → a ≠ 33 → a ≠ 41 → a ≠ 45 → E a = G a := hb
  refine hG.u ⟨e14, ?_, ?_, ?_, ?_, ?_, ?_, ?_⟩ ?_ (by rw [e27]; exact hG.2.2.1) (by rw [e31]; exact hG.2.2.2.1) (by rw [e1]; exact hG.2.2.2.2.1) (by rw [e15]; exact hG.2.2.2.2.2.1) ?_ ?_
  · exact g 34 (by decide) (by decide) (by decide) (by decide) (by decide) (by decide) (by decide) (by decide)
  · exact g 35 (by decide) (by decide) (by decide) (by decide) (by decide) (by decide) (by decide) (by decide)
  · exact g 36 (by decide) (by decide) (by decide) (by decide) (by decide) (by decide) (by decide) (by decide)
  · exact g 37 (by decide) (by decide) (by decide) (by decide) (by decide) (by decide) (by decide) (by decide)
  · exact g 38 (by decide) (by decide) (by decide) (by decide) (by decide) (by decide) (by decide) (by decide)
  · exact g 39 (by decide) (by decide) (by decide) (by decide) (by decide) (by decide) (by decide) (by decide)
  · exact g 40 (by decide) (by decide) (by decide) (by decide) (by decide) (by decide) (by decide) (by decide)
  · rw [g 42 (by decide) (by decide) (by decide) (by decide) (by decide) (by decide) (by decide) (by decide)]; exact hG.2.1
  · rw [g 44 (by decide) (by decide) (by decide) (by decide) (by decide) (by decide) (by decide) (by decide)]; exact hG.2.2.2.2.2.2.1
  · rw [e1, g 29 (by decide) (by decide) (by decide) (by decide) (by decide) (by decide) (by decide) (by decide)]; exact hG.2.2.2.2.2.2.2
theorem AGs.xj {t : qT} {D E G : qD} {k : Nat} (h : AGs D E G) (hX : XJ t D G k) (hG : RVs G) : XJ t E E k := by
  obtain ⟨hd, hb, e1, e14, e15, e27, e31, e35, e36, e37⟩ := h
  have d : ∀ a, a < 28 → E a = D a := fun a ha => hd a (by omega)
  have e29 := hb 29 (by decide) (by decide) (by decide) (by decide) (by decide) (by decide) (by decide) (by decide)
  have e44 := hb 44 (by decide) (by decide) (by decide) (by decide) (by decide) (by decide) (by decide) (by decide)
  refine hX.cg (G' := E) ⟨Nat.le_refl _, fun b hb => ⟨rfl, rfl, hd b (by have := hb.2; omega)⟩⟩ rfl rfl rfl rfl (by rw [d 0 (by decide)]) (d 3 (by decide)) (d 5 (by decide)) ⟨d 11 (by decide), d 12 (by decide), d 13 (by decide), d 14 (by decide)⟩ (fun i h1 h2 h3 => ?_) (fun b h1 h2 h3 h4 h5 => hb b (by omega) h2 (by omega) (by omega) (by omega) (by omega) h3 h5) ?_ ?_
  · rcases h3 with rfl | rfl | rfl | h3
    · exact e14
    · exact e15
    · exact e27
    · rcases (show i = 35 ∨ i = 36 ∨ i = 37 by omega) with rfl | rfl | rfl
      · exact e35
      · exact e36
      · exact e37
  · unfold PGr
    rw [e1, e29, d 1 (by decide), d 2 (by decide)]
    exact hX.2.1.1
  · rw [e44, e31]
    exact hX.2.2.2.2.2.1.d ⟨d 7 (by decide), d 8 (by decide), d 9 (by decide), d 10 (by decide)⟩ hG.2.2.2.1.2 fun _ _ _ => rfl
def IV (c : Nat) (t : qT) (D : qD) : Prop := (∃ k, XJ t D D k) ∧ RVs D ∧ D 28 15 ≤ c ∧ t.2.2.1 ≤ 49 + 24 * c ∧ t.2.2.2 ≤ 8201 + 600 * c
set_option maxRecDepth 20000 in
theorem IV.nx {c : Nat} {t t1 : qT} {D D1 E G : qD} (h : IV c t D) (hk : XK t t1 D D1 G) (hG : RVs G) (h15 : G 28 15 ≤ c + 1) (ha : AGs D1 E G) : IV (c + 1) t1 E := by
  obtain ⟨-, -, -, hn, hs⟩ := h
  obtain ⟨⟨k, hX⟩, -, k1, k2⟩ := hk
  have e15 := ha.2.2.2.2.1
  exact ⟨⟨k, ha.xj hX hG⟩, ha.rv hG, by rw [e15]; omega, by omega, by omega⟩
/-- a call that does -/
theorem IV.p {c : Nat} {t t1 : qT} {D D1 : qD} {x : qD → Int × qD} (h : IV c t D) (hk : XK t t1 D D1 (x (rst D)).2) (hr : RVs (rst D) → RK (rst D) (x (rst D)).2) (e : RGp D1 (x D1) (x (rst D1))) : (x (rst D)).1 = (x D1).1 ∧ ∀ E, SQ (x D1).2 E → IV (c + 1) t1 E := by
  rw [rst_kr hk.2.1] at e
  refine ⟨e.1.symm, fun E hE => h.nx hk (hr h.2.1.z).1 ?_ (AGs.sq e.2 hE)⟩
  rw [(hr h.2.1.z).2]
  have := h.2.2.1
  show D 28 15 ≤ _
  omega
/-- a call that only tells -/
theorem IV.v {c : Nat} {t t1 : qT} {D D1 : qD} (h : IV c t D) (hk : XK t t1 D D1 (rst D)) : ∀ E, SQ D1 E → IV (c + 1) t1 E := fun E hE => by
  have e := RG.z D1
  rw [rst_kr hk.2.1] at e
  refine h.nx hk h.2.1.z ?_ (AGs.sq e hE)
  have := h.2.2.1
  show D 28 15 ≤ _
  omega
theorem IV.r {c : Nat} {t t1 : qT} {D D1 G : qD} (h : IV c t D) (hk : XK t t1 D D1 G) : RVs D1 := by
  have := h.2.1.z
  rw [← rst_kr hk.2.1] at this
  exact this.y
theorem i32_R (x : Int32) : qR x.toInt := ⟨Int32.le_toInt x, Int32.toInt_lt x⟩
