/-! ## the class's text -/
theorem sR_cg {op op' : Int → Int} {f : Int} : ∀ n : Nat, (∀ x, 24 * f ≤ x → x < 24 * f + 3 * n → op' x = op x) → sR op' f n = sR op f n := by
  intro n
  induction n with
  | zero => intro _; rfl
  | succ n ih =>
    intro h
    show oSt op' (24 * f + 3 * n) (sR op' f n) = oSt op (24 * f + 3 * n) (sR op f n)
    rw [ih fun x a b => h x a (by omega)]
    unfold oSt
    rw [h (24 * f + 3 * n) (by omega) (by omega), h (24 * f + 3 * n + 1) (by omega) (by omega), h (24 * f + 3 * n + 2) (by omega) (by omega)]
theorem cA_cg {op op' : Int → Int} {f : Int} : ∀ n : Nat, (∀ x, 24 * f ≤ x → x < 24 * f + 3 * n → op' x = op x) → cA op' f n = cA op f n := by
  intro n
  induction n with
  | zero => intro _; rfl
  | succ n ih =>
    intro h
    show (if op' (24 * f + 3 * n) = 43 then cA op' f n else adN op' f n) = if op (24 * f + 3 * n) = 43 then cA op f n else adN op f n
    rw [ih fun x a b => h x a (by omega), h (24 * f + 3 * n) (by omega) (by omega), adN_cg fun x a b => h x a (by omega)]
theorem svN_cg {op op' : Int → Int} {f : Int} : ∀ n : Nat, (∀ x, 24 * f ≤ x → x < 24 * f + 3 * n → op' x = op x) → svN op' f n = svN op f n := by
  intro n
  induction n with
  | zero => intro _; rfl
  | succ n ih =>
    intro h
    show svN op' f n + (if op' (24 * f + 3 * n) = 115 then 1 else 0) = svN op f n + if op (24 * f + 3 * n) = 115 then 1 else 0
    rw [ih fun x a b => h x a (by omega), h (24 * f + 3 * n) (by omega) (by omega)]
theorem ROWX.cg {op op' : Int → Int} {f a y z : Int} {M : Nat} {X : Int → Int} (H : ROWX op' f M a X y z) (h : ∀ x, 24 * f ≤ x → x < 24 * f + 3 * M → op' x = op x) : ROWX op f M a X y z := by
  obtain ⟨n, a1, a2, a3, a4, a5, a6⟩ := H
  rw [adN_cg fun x a b => h x a (by omega)] at a2
  rw [sR_cg n fun x a b => h x a (by omega)] at a4 a5
  rw [cA_cg n fun x a b => h x a (by omega)] at a6
  refine ⟨n, a1, a2, ?_, a4, a5, a6⟩
  by_cases c : n = M
  · exact .inl c
  · rcases a3 with h1 | h1
    · exact absurd h1 c
    · rw [h (24 * f + 3 * n) (by omega) (by omega), adN_cg (n := n + 1) fun x a b => h x a (by omega)] at h1
      exact .inr h1
theorem CR.tx0 {t : qT} {D G E : qD} {k nf : Nat} {s : zS} (hL : t.2.1 k 1 = k + 1 ∧ t.2.1 k 2 = k + 2 ∧ t.2.1 k 3 = k + 3 ∧ t.2.1 k 4 = k + 4 ∧ t.2.1 k 5 = k + 5) (h0 : D k 0 = nf) (hT : TXT (G 29) (G 28 1) nf s.2.1 s.2.2.1 s.2.2.2.1 s.2.2.2.2) (hD : ∀ f : Nat, f < nf → CDN D k s.2.1 s.2.2.1 s.2.2.2.1 s.2.2.2.2 f)
    (e2 : ∀ f : Nat, f < nf → DNE (E 39) f (E 37 f).toNat E 10) (e3 : E 28 14 = nf) (hs : TXs E s) : CR t D k E := by
  obtain ⟨l1, l2, l3, l4, l5⟩ := hL
  obtain ⟨s1, s2, s3⟩ := hs
  obtain ⟨t1, t2, -⟩ := hT
  have nat : ∀ f : Int, 0 ≤ f → f < E 28 14 → ∃ g : Nat, f = g ∧ g < nf := fun f a b => ⟨f.toNat, by omega, by omega⟩
  have row : ∀ g : Nat, g < nf → ∀ x, 0 ≤ x → x < 10 → (∀ w, 0 ≤ w → w < 4 → D (k + 1) (((g : Int) * 10 + x) * 6 + w) = E 34 (40 * g + 4 * x + w)) ∧ D (k + 1) (((g : Int) * 10 + x) * 6 + 4) = E 35 (10 * g + x) ∧ D (k + 1) (((g : Int) * 10 + x) * 6 + 5) = E 36 (10 * g + x) := fun g hg x x0 x1 => by
    have hV := (t2 g hg).ov (by omega)
    have h1 := (hD g hg).1.1 x x0 x1
    have h2 := e2 g hg x x0 x1
    rw [(s1 g (by omega) (by omega)).1] at h2
    have hM := hV.2.1
    exact ROWX.uni hV h1 (h2.cg fun y a b => s2 y (by omega) (by omega))
  unfold CR
  rw [l1, l2, l3, l4, l5]
  refine ⟨by rw [h0, e3], fun f a w f0 f1 a0 a1 w0 w1 => ?_, fun f a f0 f1 a0 a1 => ?_, fun f f0 f1 => ?_, fun f p w f0 f1 p0 p1 w0 w1 => ?_, fun f f0 f1 => ?_, fun f n f0 f1 hn h115 => ?_⟩
  · obtain ⟨g, rfl, hg⟩ := nat f f0 f1
    exact (row g hg a a0 a1).1 w w0 w1
  · obtain ⟨g, rfl, hg⟩ := nat f f0 f1
    exact (row g hg a a0 a1).2
  · obtain ⟨g, rfl, hg⟩ := nat f f0 f1
    rw [(hD g hg).2.1, (s1 g (by omega) (by omega)).2]
  · obtain ⟨g, rfl, hg⟩ := nat f f0 f1
    have hp := (t2 g hg).1
    rw [(s1 g (by omega) (by omega)).2] at p1
    rw [s3 _ (by omega) (by omega)]
    exact (hD g hg).2.2 p w w0 w1 p0 (.inl p1)
  · obtain ⟨g, rfl, hg⟩ := nat f f0 f1
    have hp := (t2 g hg).1
    rw [(s1 g (by omega) (by omega)).1, svN_cg (s.2.1 g).toNat fun x a b => s2 x (by omega) (by omega)]
    exact (hD g hg).1.2.1
  · obtain ⟨g, rfl, hg⟩ := nat f f0 f1
    have hp := (t2 g hg).1
    rw [(s1 g (by omega) (by omega)).1] at hn
    have hg3 : (g : Int) < 3 := by omega
    rw [s2 _ (by omega) (by omega)] at h115
    rw [svN_cg n fun x a b => s2 x (by omega) (by omega), adN_cg fun x a b => s2 x (by omega) (by omega), s2 _ (by omega) (by omega), s2 _ (by omega) (by omega)]
    exact (hD g hg).1.2.2 n (by omega) h115
theorem CR.txt {t : qT} {D G E : qD} {k nf : Nat} {s : zS} (hL : t.2.1 k 1 = k + 1 ∧ t.2.1 k 2 = k + 2 ∧ t.2.1 k 3 = k + 3 ∧ t.2.1 k 4 = k + 4 ∧ t.2.1 k 5 = k + 5) (h0 : D k 0 = nf) (hT : TXT (G 29) (G 28 1) nf s.2.1 s.2.2.1 s.2.2.2.1 s.2.2.2.2) (hD : ∀ f : Nat, f < nf → CDN D k s.2.1 s.2.2.1 s.2.2.2.1 s.2.2.2.2 f)
    (hE : TX G E nf) (hs : TXs E s) : CR t D k E := CR.tx0 hL h0 hT hD hE.2.1 hE.2.2.1.1 hs
