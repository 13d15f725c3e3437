/-! ## the reference's calls that do: call, go, set, back, raise, change, undo; page -/
def SC (D E : qD) : Prop := E 28 14 = D 28 14 ∧ E 34 = D 34 ∧ E 35 = D 35 ∧ E 36 = D 36 ∧ E 37 = D 37 ∧ E 38 = D 38 ∧ E 39 = D 39 ∧ E 40 = D 40
theorem CVd.sc {D E : qD} (h : CVd D) (e : SC D E) : CVd E := by
  obtain ⟨e0, e1, e2, e3, e4, e5, e6, e7⟩ := e
  unfold CVd
  rw [e0, e1, e2, e3, e4, e5, e6, e7]
  exact h
theorem sKeep_n {D : qD} {b : Nat} (h1 : b ≠ 43) (h2 : b ≠ 28) : sKeep D b = D b := by unfold sKeep; rw [upr_n h2, upr_n h1]
theorem sKeep_28 {D : qD} {i : Int} (h : i ≠ 27) : sKeep D 28 i = D 28 i := by unfold sKeep; rw [upr_s, ui_n h]
theorem SC.keep {D : qD} : SC D (sKeep D) := ⟨sKeep_28 (by decide), sKeep_n (by decide) (by decide), sKeep_n (by decide) (by decide), sKeep_n (by decide) (by decide), sKeep_n (by decide) (by decide), sKeep_n (by decide) (by decide), sKeep_n (by decide) (by decide), sKeep_n (by decide) (by decide)⟩
theorem SC.u42 {D : qD} {N : Int → Int} : SC D (upr D 42 N) := ⟨rfl, rfl, rfl, rfl, rfl, rfl, rfl, rfl⟩
theorem SC.trans {D E F : qD} (h : SC D E) (k : SC E F) : SC D F := by
  obtain ⟨e0, e1, e2, e3, e4, e5, e6, e7⟩ := h
  obtain ⟨f0, f1, f2, f3, f4, f5, f6, f7⟩ := k
  exact ⟨f0.trans e0, f1.trans e1, f2.trans e2, f3.trans e3, f4.trans e4, f5.trans e5, f6.trans e6, f7.trans e7⟩
theorem SC.u28 {D : qD} {R : Int → Int} (h : R 14 = D 28 14) : SC D (upr D 28 R) := ⟨h, rfl, rfl, rfl, rfl, rfl, rfl, rfl⟩
def isF (D : qD) (f : Int) : Prop := 0 ≤ f ∧ f < D 28 14
def isP (D : qD) (f p : Int) : Prop := 0 ≤ f ∧ f < D 28 14 ∧ 0 ≤ p ∧ p < D 38 f
/-- what is given of the reference between two calls -/
def RVs (D : qD) : Prop := CVd D ∧ RVd (D 28 14) (D 42) ∧ (0 ≤ D 28 27 ∧ D 28 27 ≤ 30) ∧ (0 ≤ D 28 31 ∧ D 28 31 ≤ 6) ∧ (0 ≤ D 28 1 ∧ D 28 1 ≤ 100) ∧ (0 ≤ D 28 15 ∧ D 28 15 ≤ 512) ∧
  (∀ i, 0 ≤ i → i < 24 → 0 ≤ D 44 i ∧ D 44 i ≤ 4) ∧ (∀ i, 0 ≤ i → i < D 28 1 → 1 ≤ D 29 i ∧ D 29 i ≤ 126)
def pCall (D : qD) (f : Int) : Int × qD := if ¬ (0 ≤ f ∧ f < D 28 14) then (-101, D) else if D 42 13 = 8 then (-104, D) else (D 42 13 + 1, upr (sKeep D) 42 (sCall (D 37) (D 39) (D 42) f))
def pGo (D : qD) (b : Int) : Int × qD := if ¬ (1 ≤ b ∧ b ≤ 9) then (-102, D) else if D 42 13 = 0 then (-103, D) else if 9 < D 42 (sAt (D 42) 0 + 1) + b then (-103, D) else (D 42 (sAt (D 42) 0 + 1) + b, upr (sKeep D) 42 (sGo (D 37) (D 39) b.toNat (D 42)))
def pSet (D : qD) (r v : Int) : Int × qD := if ¬ (0 ≤ r ∧ r ≤ 3) then (-101, D) else if ¬ (0 ≤ v ∧ v ≤ 999) then (-102, D) else if D 28 14 = 0 then (-103, D) else (D 42 (9 + r), upr (sKeep D) 42 (ui (D 42) (9 + r) v))
def pBack (D : qD) : Int × qD := if D 42 13 = 0 then (-103, D) else (D 42 13 - 1, upr (sKeep D) 42 (sBack (D 34) (D 42)))
def pRaise (D : qD) (ty : Int) : Int × qD := if ¬ (0 ≤ ty ∧ ty ≤ 4) then (-102, D) else if D 28 14 = 0 then (-103, D) else if (sCat (D 38) (D 40) (D 42) ty).1 = -1 then (-1, D)
  else ((sCat (D 38) (D 40) (D 42) ty).1, upr (sKeep D) 42 (sRaise (D 34) (D 38) (D 40) (D 42) ty (sCat (D 38) (D 40) (D 42) ty).1 (sCat (D 38) (D 40) (D 42) ty).2.1))
def pChange (D : qD) (f p kd : Int) : Int × qD := if ¬ (0 ≤ f ∧ f < D 28 14 ∧ 0 ≤ p ∧ p < D 38 f) then (-101, D) else if ¬ (0 ≤ kd ∧ kd ≤ 4) then (-102, D) else (D 42 (3 * f + p), upr (sKeep D) 42 (ui (D 42) (3 * f + p) kd))
def pUndo (D : qD) : Int × qD := if D 28 27 = 0 then (-103, D) else (D 28 27 - 1, sPop D)
def pLetter (D : qD) (c : Int) : Int × qD := if ¬ (1 ≤ c ∧ c ≤ 126) then (-102, D) else if D 28 1 = 100 then (-104, D) else (D 28 1 + 1, upr (upr D 29 (ui (D 29) (D 28 1) c)) 28 (ui (D 28) 1 (D 28 1 + 1)))
def pBlank (D : qD) : Int × qD := (D 28 1, upr D 28 (ui (D 28) 1 0))
/-- scratch of the reference that no call shows -/
def SQ (D E : qD) : Prop := (∀ a, a ≠ 28 → a ≠ 30 → a ≠ 31 → a ≠ 32 → a ≠ 33 → a ≠ 41 → a ≠ 45 → E a = D a) ∧
  E 28 1 = D 28 1 ∧ E 28 14 = D 28 14 ∧ E 28 15 = D 28 15 ∧ E 28 27 = D 28 27 ∧ E 28 31 = D 28 31 ∧ E 28 35 = D 28 35 ∧ E 28 36 = D 28 36 ∧ E 28 37 = D 28 37
theorem SQ.rfl' {D : qD} : SQ D D := ⟨fun _ _ _ _ _ _ _ _ => rfl, rfl, rfl, rfl, rfl, rfl, rfl, rfl, rfl⟩
theorem SQ.s28 {D : qD} {c p f : Int} : SQ D (upr D 28 (s28 (D 28) c p f)) := ⟨fun _ h _ _ _ _ _ _ => upr_n h, rfl, rfl, rfl, rfl, rfl, rfl, rfl, rfl⟩
section RF
variable {S : (Nat → Int32) × Nat} {t : qT} {D : qD} {Q : Int → qT → qD → Prop}
theorem tf {c : Prop} [Decidable c] {A B : Prop} (h1 : c → B) (h2 : ¬ c → A) : if (if c then (1 : Int) else 0) = 0 then A else B := by
  by_cases h : c
  · rw [if_pos h]; exact h1 h
  · rw [if_neg h]; exact h2 h
theorem tfR {c : Prop} [Decidable c] : qR (if c then (1 : Int) else 0) := by split <;> exact ⟨by omega, by omega⟩
theorem c139 {f : Int} (hf : qR f) (h : RVs D) (k : Q (pCall D f).1 t (pCall D f).2) : wp S 139 0 [some (qs 28), some (qi f)] [] t D Q := by
  obtain ⟨hC, hV, h27, -⟩ := h
  have h13 := hV.1
  unfold pCall at k
  refine b139_0 (c129 hf hC.1 (chk_i tfR (tf (fun c => c133 (chk_i (by omega) (ite_i (fun c2 => ?_) fun c2 => c131 h27 ?_))) fun c => ?_)))
  · rwa [if_neg (fun z => z c), if_pos c2] at k
  · rw [if_neg (fun z => z c), if_neg c2] at k
    refine c136 (hC.sc SC.keep) (by rw [sKeep_28 (by decide)]; exact c) (by rw [sKeep_n (by decide) (by decide)]; omega) (c133 ?_)
    simp only [upr_s]
    rw [sKeep_n (b := 37) (by decide) (by decide), sKeep_n (b := 39) (by decide) (by decide), sKeep_n (b := 42) (by decide) (by decide)]
    have e : sCall (D 37) (D 39) (D 42) f 13 = D 42 13 + 1 := by
      unfold sCall
      rw [sSv_n hC c _ _ _ _ _ (Int.le_refl 0) (by omega), ui_n (by omega)]
      unfold sClr
      rw [cpf_n (by omega), ui_s]
    rw [e]
    exact k
  · rwa [if_pos c] at k
theorem c140 {b : Int} (hb : qR b) (h : RVs D) (k : Q (pGo D b).1 t (pGo D b).2) : wp S 140 0 [some (qs 28), some (qi b)] [] t D Q := by
  obtain ⟨hC, hV, h27, -⟩ := h
  have h13 := hV.1
  unfold pGo at k
  refine b140_0 (chk_i hb (c110 hb (by omega) (by omega) (chk_i tfR (tf (fun c => c133 (chk_i (by omega) (ite_i (fun c2 => ?_) fun c2 => c134 ?_))) fun c => ?_))))
  · rwa [if_neg (fun z => z c), if_pos c2] at k
  · have ha := sAt_r hV (Int.le_refl 0) (by omega)
    rw [if_neg (fun z => z c), if_neg c2] at k
    refine chk_i (by omega) (chk_i (by omega) (ite_i (fun c3 => ?_) fun c3 => c131 h27 ?_))
    · rwa [if_pos c3] at k
    · rw [if_neg c3] at k
      have e42 : sKeep D 42 = D 42 := sKeep_n (by decide) (by decide)
      refine c137 (hC.sc SC.keep) (by omega) (by rw [e42, sKeep_28 (by decide)]; exact hV) (by rw [e42]; omega) (by rw [e42]; omega) (c134 ?_)
      simp only [upr_s]
      rw [sKeep_n (b := 37) (by decide) (by decide), sKeep_n (b := 39) (by decide) (by decide), e42]
      have hg := sGo_r hC b.toNat (D 42) hV (by omega) (by omega)
      have es : sAt (sGo (D 37) (D 39) b.toNat (D 42)) 0 = sAt (D 42) 0 := sAt_d (by rw [hg.2.1])
      rw [es, hg.2.2, show ((b.toNat : Nat) : Int) = b by omega]
      exact chk_i (by omega) k
  · rwa [if_pos c] at k
theorem c141 {r v : Int} (hr : qR r) (hv : qR v) (h : RVs D) (k : Q (pSet D r v).1 t (pSet D r v).2) : wp S 141 0 [some (qs 28), some (qi r), some (qi v), none] [] t D Q := by
  obtain ⟨hC, hV, h27, -⟩ := h
  unfold pSet at k
  refine b141_0 (chk_i hr (c110 hr (by omega) (by omega) (chk_i tfR (tf (fun c => chk_i hv (c110 hv (by omega) (by omega) (chk_i tfR (tf (fun c2 => c128 hC.1 (chk_i tfR (tf (fun c3 => ?_) fun c3 => ?_))) fun c2 => ?_)))) fun c => ?_))))
  · rwa [if_neg (fun z => z c), if_neg (fun z => z c2), if_pos c3] at k
  · rw [if_neg (fun z => z c), if_neg (fun z => z c2), if_neg c3] at k
    refine c131 h27 (chk_i (by omega) (chk_i (by omega) ?_))
    rw [up_eq, sKeep_n (b := 42) (by decide) (by decide)]
    exact k
  · rwa [if_neg (fun z => z c), if_pos c2] at k
  · rwa [if_pos c] at k
theorem c142 (h : RVs D) (k : Q (pBack D).1 t (pBack D).2) : wp S 142 0 [some (qs 28)] [] t D Q := by
  obtain ⟨hC, hV, h27, -⟩ := h
  have h13 := hV.1
  have e42 : sKeep D 42 = D 42 := sKeep_n (by decide) (by decide)
  unfold pBack at k
  refine b142_0 (c133 (chk_i (by omega) (ite_i (fun c => ?_) fun c => c131 h27 ?_)))
  · rwa [if_pos c] at k
  · rw [if_neg c] at k
    refine c138 (hC.sc SC.keep) (by rw [e42, sKeep_28 (by decide)]; exact hV) (by rw [e42]; omega) (c133 ?_)
    simp only [upr_s]
    rw [sKeep_n (b := 34) (by decide) (by decide), e42]
    have e : sBack (D 34) (D 42) 13 = D 42 13 - 1 := ui_s
    rw [e]
    exact k
theorem c151 {ty : Int} (ht : qR ty) (h : RVs D) (k : ∀ E, SQ (pRaise D ty).2 E → Q (pRaise D ty).1 t E) : wp S 151 0 [some (qs 28), some (qi ty)] [] t D Q := by
  obtain ⟨hC, hV, h27, -⟩ := h
  have h13 := hV.1
  unfold pRaise at k
  refine b151_0 (chk_i ht (c110 ht (by omega) (by omega) (chk_i tfR (tf (fun c => c128 hC.1 (chk_i tfR (tf (fun c3 => ?_) fun c3 => c146 c hC hV ?_))) fun c => ?_))))
  · rw [if_neg (fun z => z c), if_pos c3] at k
    exact k D SQ.rfl'
  · rw [if_neg (fun z => z c), if_neg c3] at k
    have hr := sCat_r (D 38) (D 40) (D 42) ty
    simp only [upr_s]
    show chk (qR (sCat (D 38) (D 40) (D 42) ty).1) (if (sCat (D 38) (D 40) (D 42) ty).1 = -1 then _ else _)
    refine chk_i (by omega) (ite_i (fun c4 => ?_) fun c4 => c131 ?_ ?_)
    · rw [if_pos c4] at k
      exact k _ SQ.s28
    · exact h27
    · rw [if_neg c4] at k
      generalize hE : upr D 28 (s28 (D 28) (sCat (D 38) (D 40) (D 42) ty).1 (sCat (D 38) (D 40) (D 42) ty).2.1 (sCat (D 38) (D 40) (D 42) ty).2.2) = E
      have e28 : ∀ i, i ≠ 28 → i ≠ 29 → i ≠ 30 → E 28 i = D 28 i := fun i h1 h2 h3 => by rw [← hE, upr_s]; unfold s28; rw [if_neg h1, if_neg h2, if_neg h3]
      have en : ∀ b, b ≠ 28 → E b = D b := fun b hb => by rw [← hE]; exact upr_n hb
      have ea : E 28 28 = (sCat (D 38) (D 40) (D 42) ty).1 := by rw [← hE]; rfl
      have eb : E 28 29 = (sCat (D 38) (D 40) (D 42) ty).2.1 := by rw [← hE]; rfl
      have hS : SC D E := by rw [← hE]; exact SC.u28 rfl
      have k42 : sKeep E 42 = D 42 := (sKeep_n (by decide) (by decide)).trans (en 42 (by decide))
      refine c150 (c := (sCat (D 38) (D 40) (D 42) ty).1) (cp := (sCat (D 38) (D 40) (D 42) ty).2.1) (hC.sc (hS.trans SC.keep)) c (by rw [sKeep_28 (by decide), ea]) (by rw [sKeep_28 (by decide), eb]) (by rw [k42, sKeep_28 (by decide), e28 14 (by decide) (by decide) (by decide)]; exact hV) (by rw [k42]; omega) (by rw [k42, sKeep_n (by decide) (by decide), en 38 (by decide)]; omega) ?_
      have ev : upr (sKeep E) 42 (sRaise (sKeep E 34) (sKeep E 38) (sKeep E 40) (sKeep E 42) ty (sCat (D 38) (D 40) (D 42) ty).1 (sCat (D 38) (D 40) (D 42) ty).2.1) 28 28 = (sCat (D 38) (D 40) (D 42) ty).1 := by
        rw [upr_n (by decide), sKeep_28 (by decide), ea]
      rw [ev]
      refine k _ ⟨fun a h1 h2 h3 h4 h5 h6 h7 => ?_, ?_⟩
      · dsimp only
        by_cases c42 : a = 42
        · subst c42
          rw [upr_s, upr_s, k42, sKeep_n (b := 34) (by decide) (by decide), sKeep_n (b := 38) (by decide) (by decide), sKeep_n (b := 40) (by decide) (by decide), en 34 (by decide), en 38 (by decide), en 40 (by decide)]
        · rw [upr_n c42, upr_n c42]
          unfold sKeep
          rw [upr_n h1, upr_n h1, en 43 (by decide), en 42 (by decide), e28 27 (by decide) (by decide) (by decide)]
          by_cases c43 : a = 43
          · subst c43; rw [upr_s, upr_s]
          · rw [upr_n c43, upr_n c43]; exact en a h1
      · have f : ∀ i, i ≠ 27 → i ≠ 28 → i ≠ 29 → i ≠ 30 → sKeep E 28 i = sKeep D 28 i := fun i h0 h1 h2 h3 => by
          rw [sKeep_28 h0, sKeep_28 h0, e28 i h1 h2 h3]
        refine ⟨f 1 (by decide) (by decide) (by decide) (by decide), f 14 (by decide) (by decide) (by decide) (by decide), f 15 (by decide) (by decide) (by decide) (by decide), ?_, f 31 (by decide) (by decide) (by decide) (by decide), f 35 (by decide) (by decide) (by decide) (by decide), f 36 (by decide) (by decide) (by decide) (by decide), f 37 (by decide) (by decide) (by decide) (by decide)⟩
        show sKeep E 28 27 = sKeep D 28 27
        unfold sKeep
        rw [upr_s, upr_s, ui_s, ui_s, e28 27 (by decide) (by decide) (by decide)]
  · rw [if_pos c] at k
    exact k D SQ.rfl'
theorem c155 {f p kd : Int} (hf : qR f) (hp : qR p) (hk : qR kd) (h : RVs D) (k : Q (pChange D f p kd).1 t (pChange D f p kd).2) : wp S 155 0 [some (qs 28), some (qi f), some (qi p), some (qi kd), none] [] t D Q := by
  obtain ⟨hC, hV, h27, -⟩ := h
  have h1 := hC.1
  unfold pChange at k
  refine b155_0 (c130 hf hp hC (chk_i tfR (tf (fun c => chk_i hk (c110 hk (by omega) (by omega) (chk_i tfR (tf (fun c2 => c131 h27 ?_) fun c2 => ?_)))) fun c => ?_)))
  · have h2 := hC.2.1 f c.1 c.2.1
    rw [if_neg (fun z => z c), if_neg (fun z => z c2)] at k
    refine chk_i (by omega) (chk_i (by omega) ?_)
    rw [up_eq, sKeep_n (b := 42) (by decide) (by decide)]
    exact k
  · rwa [if_neg (fun z => z c), if_pos c2] at k
  · rwa [if_pos c] at k
theorem c132p (h : RVs D) (k : Q (pUndo D).1 t (pUndo D).2) : wp S 132 0 [some (qs 28), none] [] t D Q := by
  refine c132 h.2.2.1 (ite_i (fun c => ?_) fun c => ?_)
  · unfold pUndo at k; rwa [if_pos c] at k
  · unfold pUndo at k; rwa [if_neg c] at k
theorem c111 {c : Int} (hc : qR c) (h : RVs D) (k : Q (pLetter D c).1 t (pLetter D c).2) : wp S 111 0 [some (qs 28), some (qi c)] [] t D Q := by
  have h1 := h.2.2.2.2.1
  unfold pLetter at k
  refine b111_0 (chk_i hc (c110 hc (by omega) (by omega) (chk_i tfR (tf (fun c => chk_i (by omega) (ite_i (fun c2 => ?_) fun c2 => chk_i (by omega) ?_)) fun c => ?_))))
  · rwa [if_neg (fun z => z c), if_pos c2] at k
  · rw [if_neg (fun z => z c), if_neg c2] at k
    simp only [up_eq, upr_b, Nat.reduceBEq]
    exact k
  · rwa [if_pos c] at k
theorem c112 (k : Q (pBlank D).1 t (pBlank D).2) : wp S 112 0 [some (qs 28), none] [] t D Q := by
  refine b112_0 ?_
  rw [up_eq]
  exact k
end RF
