/-! ## the reference's text -/
theorem FUL.ov {pg om pm op pd : Int → Int} {f : Nat} (h : FUL pg om pm op pd f) (hf : f < 3) : OV op f (om f).toNat := by
  obtain ⟨h1, h2, -⟩ := h
  refine ⟨by omega, by omega, fun j hj => ?_⟩
  obtain ⟨a1, a2, a3, a4⟩ := h2 j hj
  exact ⟨a1, a4⟩
theorem TXT.cg {pg om pm op pd om' pm' op' pd' : Int → Int} {len : Int} {nf : Nat} (h : TXT pg len nf om pm op pd) (h1 : ∀ x : Int, 0 ≤ x → x < 3 → om' x = om x ∧ pm' x = pm x) (h2 : ∀ x : Int, 0 ≤ x → x < 72 → op' x = op x) (h3 : ∀ x : Int, 0 ≤ x → x < 45 → pd' x = pd x) : TXT pg len nf om' pm' op' pd' := by
  obtain ⟨t1, t2, t3, t4⟩ := h
  have hb : ∀ f : Nat, f < nf → om f ≤ 8 := fun f a => (t2 f a).1.2.1
  have hP : ∀ M : Nat, M ≤ nf → fPos om' pm' op' M = fPos om pm op M := fun M hM => fPos_cg (fun f a => hb f (by omega)) (fun x a b => h1 x a (by omega)) fun x a b => h2 x a (by omega)
  refine ⟨t1, fun f a => ?_, fun f a => ?_, ?_⟩
  · obtain ⟨f1, f2, f3, f4⟩ := t2 f a
    have e := h1 f (by omega) (by omega)
    unfold FUL
    rw [e.1, e.2, hP f (by omega), oLen_cg fun x c d => h2 x (by omega) (by omega)]
    exact ⟨f1, f2.cg fun x c d => h2 x (by omega) (by omega), f3, f4.cg fun x c d => h3 x (by omega) (by omega)⟩
  · rw [hP (f + 1) (by omega)]; exact t3 f a
  · rw [hP nf (by omega)]; exact t4
theorem OV.r {op : Int → Int} {f : Int} {M : Nat} (h : OV op f M) : ∀ n, n ≤ M → (∀ i, -1 ≤ (sR op f n).1 i ∧ (sR op f n).1 i ≤ 5) ∧ 0 ≤ cA op f n ∧ cA op f n ≤ 9 := by
  intro n
  induction n with
  | zero => intro _; exact ⟨fun _ => ⟨Int.le_refl _, show (-1 : Int) ≤ 5 by decide⟩, Int.le_refl _, show (0 : Int) ≤ 9 by decide⟩
  | succ n ih =>
    intro hn
    have ih := ih (by omega)
    have hd := (h.d n (by omega)).2
    have hv := (h.2.2 n (by omega)).1
    unfold opV at hv
    refine ⟨fun i => ?_, ?_⟩
    · have e : sR op f (n + 1) = oSt op (24 * f + 3 * n) (sR op f n) := rfl
      rw [e]
      have r := ih.1
      generalize sR op f n = R at r
      unfold oSt
      split
      · dsimp only
        split
        · exact r _
        · split
          · decide
          · exact r _
      · split
        · dsimp only
          split
          · exact r _
          · exact r _
        · split
          · unfold ui
            dsimp only
            split
            · omega
            · exact r _
          · split
            · unfold ui
              dsimp only
              split
              · decide
              · exact r _
            · exact r _
    · have e : cA op f (n + 1) = if op (24 * f + 3 * n) = 43 then cA op f n else adN op f n := rfl
      rw [e]
      split
      · exact ih.2
      · exact hd
def TX (D E : qD) (nf : Nat) : Prop := TXT (D 29) (D 28 1) nf (E 37) (E 38) (E 39) (E 40) ∧ (∀ f : Nat, f < nf → DNE (E 39) f (E 37 f).toNat E 10) ∧
  (E 28 14 = nf ∧ E 28 27 = 0 ∧ E 28 31 = 0 ∧ E 28 15 = D 28 15 + 1 ∧ E 28 1 = 0 ∧ E 28 35 = D 28 35) ∧ (∀ b, b = 29 ∨ (43 ≤ b ∧ b ≤ 44) → E b = D b) ∧ (∀ b, ¬ (28 ≤ b ∧ b < 49) → E b = D b) ∧
  (∀ i, 9 ≤ i → i < 110 → E 42 i = 0) ∧ ∀ (f p : Int), 0 ≤ f → f < 3 → 0 ≤ p → p < 3 → E 42 (3 * f + p) = if f < nf ∧ p < E 38 f then E 40 (15 * f + 5 * p) else 0
def TXs (E : qD) (s : zS) : Prop := (∀ i, 0 ≤ i → i < 3 → E 37 i = s.2.1 i ∧ E 38 i = s.2.2.1 i) ∧ (∀ i, 0 ≤ i → i < 72 → E 39 i = s.2.2.2.1 i) ∧ ∀ i, 0 ≤ i → i < 45 → E 40 i = s.2.2.2.2 i
/-- is the page a text -/
def GOOD (D : qD) (s : zS) : Prop := (vRead D).2 = some s ∧ (vRead D).1 = D 28 1 ∧ s.1 5 = 1 ∧ s.1 6 = 0
section RU
variable {S : (Nat → Int32) × Nat} {t : qT} {D : qD} {Q : Int → qT → qD → Prop}
def FB (B E : qD) : Prop := (∀ b, b ≠ 28 → b ≠ 34 → b ≠ 35 → b ≠ 36 → b ≠ 41 → b ≠ 42 → E b = B b) ∧ ∀ i, i ≠ 24 → E 28 i = B 28 i
theorem DNE.frm {op : Int → Int} {f g : Int} {M : Nat} {E E' : qD} (h : DNE op g M E 10) (k : FRM f E E') (hg : 0 ≤ g ∧ g < f) : DNE op g M E' 10 := by
  intro x x0 x1
  obtain ⟨n, a1, a2, a3, a4, a5, a6⟩ := h x x0 x1
  refine ⟨n, a1, a2, a3, fun w y z => ?_, ?_, ?_⟩
  · exact (k.2.2.1 _ (by omega)).trans (a4 w y z)
  · rw [(k.2.2.2 _ (by omega)).1]; exact a5
  · rw [(k.2.2.2 _ (by omega)).2]; exact a6
theorem zRun_lo (pg : Int → Int) (len : Int) : ∀ (n : Nat) (i : Int) (s : zS), i ≤ (zRun pg len n i s).1 ∧ (zRun pg len n i s).1 ≤ i + n := by
  intro n
  induction n with
  | zero => intro i s; exact ⟨Int.le_refl _, by show i ≤ i + ((0 : Nat) : Int); omega⟩
  | succ n ih =>
    intro i s
    unfold zRun
    split
    · split
      · have := ih (i + 1) (by assumption)
        omega
      · dsimp only; omega
    · dsimp only; omega
end RU
