/-! ## what stands between two calls: the class's objects against the reference's cells -/
def KI (t t' : qT) (D D' : qD) : Prop := t.2.2.1 ≤ t'.2.2.1 ∧ ∀ b, im t b → t'.1 b = t.1 b ∧ t'.2.1 b = t.2.1 b ∧ D' b = D b
def HC (t : qT) (D : qD) (k : Nat) (nf : Int) (c : Nat) (N : Int → Int) : Prop := MO t c ∧ t.2.1 c 0 = k ∧ MR t D c N ∧ RVd nf N
def HR (t : qT) (D : qD) (k : Nat) (nf : Int) (h p : Nat) (U : Int → Int) (m : Int) : Prop :=
  D h 2 = m ∧ (0 ≤ D h 1 ∧ D h 1 < 30) ∧ (0 ≤ m ∧ m ≤ 30) ∧ (∀ i, 0 ≤ i → i < 30 → t.2.1 p i = 0 ∨ (t.1 (t.2.1 p i)).1 = 3 ∧ im t (t.2.1 p i)) ∧
  ∀ j, 0 ≤ j → j < m → HC t D k nf (t.2.1 p ((D h 1 + 30 - m + j) % 30)) (fun i => U (110 * j + i))
def XE (t : qT) (D G : qD) (k : Nat) : Prop := (t.2.1 0 6 = 0 ∧ G 28 35 < G 28 15) ∨
  (t.2.1 0 6 ≠ 0 ∧ G 28 35 = G 28 15 ∧ HC t D k (G 28 14) (t.2.1 0 6) (G 46) ∧ HR t D k (G 28 14) 5 6 (G 47) (G 28 36) ∧ SRl D 11 12 13 14 (G 48) (G 28 37) ∧ (0 ≤ G 28 37 ∧ G 28 37 ≤ 6) ∧ (∀ i, 0 ≤ i → i < 24 → 0 ≤ G 48 i ∧ G 48 i ≤ 4))
def XJ (t : qT) (D G : qD) (k : Nat) : Prop :=
  34 ≤ t.2.2.1 ∧ (PGr D G ∧ D 0 7 = G 28 15) ∧ (CO t k ∧ CR t D k G) ∧ HC t D k (G 28 14) (t.2.1 0 5) (G 42) ∧ HR t D k (G 28 14) 3 4 (G 43) (G 28 27) ∧ SRl D 7 8 9 10 (G 44) (G 28 31) ∧ (-1 ≤ G 28 35 ∧ G 28 35 ≤ G 28 15) ∧ XE t D G k
theorem KI.of {t t' : qT} {D D' : qD} (hk : KP t.2.2.1 t t' D D') (hn : t.2.2.1 ≤ t'.2.2.1) : KI t t' D D' := ⟨hn, fun b hb => hk b hb.1⟩
theorem im.ki {t t' : qT} {D D' : qD} {b : Nat} (h : im t b) (hk : KI t t' D D') : im t' b := h.kp hk.1
theorem KI.trans {t u v : qT} {D E F : qD} (h : KI t u D E) (k : KI u v E F) : KI t v D F := ⟨Nat.le_trans h.1 k.1, fun b hb => ⟨(k.2 b (hb.ki h)).1.trans (h.2 b hb).1, (k.2 b (hb.ki h)).2.1.trans (h.2 b hb).2.1, (k.2 b (hb.ki h)).2.2.trans (h.2 b hb).2.2⟩⟩
theorem CO.ki {t t' : qT} {k : Nat} {D D' : qD} (h : CO t k) (hk : KI t t' D D') : CO t' k := by
  obtain ⟨h0, h1, h2, h3, h4, h5⟩ := h
  unfold CO
  rw [(hk.2 k h0.2).2.1, (hk.2 k h0.2).1, (hk.2 _ h1.2.2).1, (hk.2 _ h2.2.2).1, (hk.2 _ h3.2.2).1, (hk.2 _ h4.2.2).1, (hk.2 _ h5.2.2).1]
  exact ⟨⟨h0.1, h0.2.ki hk⟩, ⟨h1.1, h1.2.1, h1.2.2.ki hk⟩, ⟨h2.1, h2.2.1, h2.2.2.ki hk⟩, ⟨h3.1, h3.2.1, h3.2.2.ki hk⟩, ⟨h4.1, h4.2.1, h4.2.2.ki hk⟩, ⟨h5.1, h5.2.1, h5.2.2.ki hk⟩⟩
theorem CR.ki {t t' : qT} {k : Nat} {D D' G : qD} (h : CR t D k G) (ho : CO t k) (hk : KI t t' D D') : CR t' D' k G := by
  obtain ⟨h0, h1, h2, h3, h4, h5⟩ := ho
  unfold CR
  rw [(hk.2 k h0.2).2.1, (hk.2 k h0.2).2.2, (hk.2 _ h1.2.2).2.2, (hk.2 _ h2.2.2).2.2, (hk.2 _ h3.2.2).2.2, (hk.2 _ h4.2.2).2.2, (hk.2 _ h5.2.2).2.2]
  exact h
theorem MO.ki {t t' : qT} {a : Nat} {D D' : qD} (h : MO t a) (hk : KI t t' D D') : MO t' a := by
  obtain ⟨h0, hc, h1, h2, h3, h4, h5, h6⟩ := h
  unfold MO
  rw [(hk.2 a h0.2).2.1, (hk.2 a h0.2).1, (hk.2 _ h1.2.2).1, (hk.2 _ h2.2.2).1, (hk.2 _ h3.2.2).1, (hk.2 _ h4.2.2).1, (hk.2 _ h5.2.2).1, (hk.2 _ h6.2.2).1]
  exact ⟨⟨h0.1, h0.2.ki hk⟩, hc.ki hk, ⟨h1.1, h1.2.1, h1.2.2.ki hk⟩, ⟨h2.1, h2.2.1, h2.2.2.ki hk⟩, ⟨h3.1, h3.2.1, h3.2.2.ki hk⟩, ⟨h4.1, h4.2.1, h4.2.2.ki hk⟩, ⟨h5.1, h5.2.1, h5.2.2.ki hk⟩, ⟨h6.1, h6.2.1, h6.2.2.ki hk⟩⟩
theorem MR.ki {t t' : qT} {a : Nat} {D D' : qD} {N : Int → Int} (h : MR t D a N) (ho : MO t a) (hk : KI t t' D D') : MR t' D' a N := by
  obtain ⟨h0, hc, h1, h2, h3, h4, h5, h6⟩ := ho
  unfold MR
  rw [(hk.2 a h0.2).2.1, (hk.2 a h0.2).2.2, (hk.2 _ h1.2.2).2.2, (hk.2 _ h2.2.2).2.2, (hk.2 _ h3.2.2).2.2, (hk.2 _ h4.2.2).2.2, (hk.2 _ h5.2.2).2.2, (hk.2 _ h6.2.2).2.2]
  exact h
theorem HC.ki {t t' : qT} {c k : Nat} {D D' : qD} {N : Int → Int} {nf : Int} (h : HC t D k nf c N) (hk : KI t t' D D') : HC t' D' k nf c N := ⟨h.1.ki hk, by rw [(hk.2 c h.1.1.2).2.1]; exact h.2.1, h.2.2.1.ki h.1 hk, h.2.2.2⟩
theorem RVd.cg {nf : Int} {N M : Int → Int} (h : RVd nf N) (e : ∀ i, 0 ≤ i → i < 110 → M i = N i) : RVd nf M := by
  obtain ⟨h1, h2, h3, h4, h5⟩ := h
  unfold RVd
  rw [e 13 (by omega) (by omega), e 78 (by omega) (by omega)]
  refine ⟨h1, fun l p q => ?_, fun x p q => ?_, h4, fun x p q => ?_⟩
  · rw [e (14 + 8 * l) (by omega) (by omega), e (14 + 8 * l + 1) (by omega) (by omega)]; exact h2 l p q
  · rw [e x p (by omega)]; exact h3 x p q
  · rw [e x p q]; exact h5 x p q
theorem MR.cg {t : qT} {a : Nat} {D : qD} {N M : Int → Int} (h : MR t D a N) (e : ∀ i, 0 ≤ i → i < 110 → M i = N i) : MR t D a M := by
  obtain ⟨h1, h2, h3, h4, h5, h6, h7, h8⟩ := h
  refine ⟨fun x p q => ?_, fun x p q => ?_, ?_, fun x p q => ?_, fun x p q => ?_, fun x y p q r s => ?_, ?_, fun x p q => ?_⟩
  · rw [e x (by omega) (by omega)]; exact h1 x p q
  · rw [e _ (by omega) (by omega)]; exact h2 x p q
  · rw [e 13 (by omega) (by omega)]; exact h3
  · rw [e _ (by omega) (by omega)]; exact h4 x p q
  · rw [e _ (by omega) (by omega)]; exact h5 x p q
  · rw [e _ (by omega) (by omega)]; exact h6 x y p q r s
  · rw [e 78 (by omega) (by omega)]; exact h7
  · rw [e _ (by omega) (by omega)]; exact h8 x p q
theorem HC.cg {t : qT} {c k : Nat} {D : qD} {N M : Int → Int} {nf : Int} (h : HC t D k nf c N) (e : ∀ i, 0 ≤ i → i < 110 → M i = N i) : HC t D k nf c M := ⟨h.1, h.2.1, h.2.2.1.cg e, h.2.2.2.cg e⟩
theorem HR.ki {t t' : qT} {k h p : Nat} {D D' : qD} {U V : Int → Int} {nf m : Int} (H : HR t D k nf h p U m) (hk : KI t t' D D') (hP : t'.2.1 p = t.2.1 p) (hD : ∀ i, D' h i = D h i) (hU : ∀ i, 0 ≤ i → i < 110 * m → V i = U i) : HR t' D' k nf h p V m := by
  obtain ⟨h1, h2, h3, h4, h5⟩ := H
  unfold HR
  rw [hP, hD 1, hD 2]
  refine ⟨h1, h2, h3, fun i a b => ?_, fun j a b => ((h5 j a b).ki hk).cg fun i c d => hU _ (by omega) (by omega)⟩
  refine (h4 i a b).imp id fun z => ?_
  rw [(hk.2 _ z.2).1]
  exact ⟨z.1, z.2.ki hk⟩
theorem HR.push {t t' : qT} {k h p c : Nat} {D D' : qD} {U N : Int → Int} {nf m : Int} (H : HR t D k nf h p U m) (hc : HC t D k nf c N) (hk : KI t t' D D') (hP : ∀ i, t'.2.1 p i = if i = D h 1 then c else t.2.1 p i) (h1 : D' h 1 = (D h 1 + 1) % 30) (h2 : D' h 2 = sPushN m) : HR t' D' k nf h p (sPush U N m) (sPushN m) := by
  obtain ⟨g1, g2, g3, g4, g5⟩ := H
  have hm : sPushN m = 30 ∧ m = 30 ∨ sPushN m = m + 1 ∧ m < 30 := by
    unfold sPushN
    by_cases c : m = 30
    · rw [if_pos c]; exact .inl ⟨rfl, c⟩
    · rw [if_neg c]; exact .inr ⟨rfl, by omega⟩
  refine ⟨h2, by omega, by omega, fun i a b => ?_, fun j a b => ?_⟩
  · rw [hP]
    by_cases e : i = D h 1
    · rw [if_pos e]
      refine .inr ⟨?_, hc.1.1.2.ki hk⟩
      rw [(hk.2 c hc.1.1.2).1]; exact hc.1.1.1
    · rw [if_neg e]
      refine (g4 i a b).imp id fun z => ?_
      rw [(hk.2 _ z.2).1]
      exact ⟨z.1, z.2.ki hk⟩
  · rw [hP, h1]
    rcases hm with ⟨e1, e2⟩ | ⟨e1, e2⟩
    · rw [e1] at b ⊢
      by_cases e : j = 29
      · rw [if_pos (by omega)]
        refine (hc.ki hk).cg fun i x y => ?_
        show sPush U N m (110 * j + i) = N i
        unfold sPush
        rw [if_pos e2, cpf_y (by omega), show 110 * j + i - 3190 = i by omega]
      · rw [if_neg (by omega)]
        have := (g5 (j + 1) (by omega) (by omega)).ki hk
        rw [show (D h 1 + 30 - m + (j + 1)) % 30 = ((D h 1 + 1) % 30 + 30 - 30 + j) % 30 by omega] at this
        refine this.cg fun i x y => ?_
        show sPush U N m (110 * j + i) = U (110 * (j + 1) + i)
        unfold sPush
        rw [if_pos e2, cpf_n (by omega), cpf_y (by omega), show 110 * j + i + 110 = 110 * (j + 1) + i by omega]
    · rw [e1] at b ⊢
      by_cases e : j = m
      · rw [if_pos (by omega)]
        refine (hc.ki hk).cg fun i x y => ?_
        show sPush U N m (110 * j + i) = N i
        unfold sPush
        rw [if_neg (by omega), cpf_y (by omega), show 110 * j + i - 110 * m = i by omega]
      · rw [if_neg (by omega)]
        have := (g5 j (by omega) (by omega)).ki hk
        rw [show (D h 1 + 30 - m + j) % 30 = ((D h 1 + 1) % 30 + 30 - (m + 1) + j) % 30 by omega] at this
        refine this.cg fun i x y => ?_
        show sPush U N m (110 * j + i) = U (110 * j + i)
        unfold sPush
        rw [if_neg (by omega), cpf_n (by omega)]
theorem SRl.d {D D' : qD} {s x y z : Nat} {sg sh : Int → Int} {m : Int} (h : SRl D s x y z sg m) (e : D' s = D s ∧ D' x = D x ∧ D' y = D y ∧ D' z = D z) (hm : m ≤ 6) (hg : ∀ i, 0 ≤ i → i < 24 → sh i = sg i) : SRl D' s x y z sh m := by
  unfold SRl
  rw [e.1, e.2.1, e.2.2.1, e.2.2.2]
  refine ⟨h.1, fun i a b => ?_⟩
  rw [hg (4 * i) (by omega) (by omega), hg (4 * i + 1) (by omega) (by omega), hg (4 * i + 2) (by omega) (by omega), hg (4 * i + 3) (by omega) (by omega)]
  exact h.2 i a b
theorem XJ.q {t : qT} {D G : qD} {k : Nat} (h : XJ t D G k) : XQ t D G := by
  obtain ⟨h1, h2, h3, h4, h5, h6, h7, h8⟩ := h
  refine ⟨⟨h4.1, h4.2.2.1, ?_⟩, h6, h2.1, h5.1, h2.2⟩
  rw [h4.2.1]; exact h3.2
