/-! ## what the page says of a reading: the letters of each op and pad, and where they stand -/
def oLen (op : Int → Int) (f : Int) : Nat → Int
  | 0 => 0
  | n + 1 => oLen op f n + 1 + zDig (op (24 * f + 3 * n))
def dN (op : Int → Int) (f : Int) : Nat → Int
  | 0 => 0
  | n + 1 => dN op f n + if op (24 * f + 3 * n) = 109 then 1 else if op (24 * f + 3 * n) = 98 then -1 else 0
def opV (op : Int → Int) (x : Int) : Prop := (op x = 43 ∧ 1 ≤ op (x + 1) ∧ op (x + 1) ≤ 9) ∨ (op x = 115 ∧ 0 ≤ op (x + 1) ∧ op (x + 1) ≤ 3 ∧ 0 ≤ op (x + 2) ∧ op (x + 2) ≤ 5) ∨ (op x = 117 ∧ 0 ≤ op (x + 1) ∧ op (x + 1) ≤ 3) ∨ op x = 109 ∨ op x = 98
def OPS (pg op : Int → Int) (f b : Int) (n : Nat) : Prop := ∀ j : Nat, j < n → opV op (24 * f + 3 * j) ∧ pg (b + oLen op f j) = op (24 * f + 3 * j) ∧
  (∀ x, 1 ≤ x → x ≤ zDig (op (24 * f + 3 * j)) → pg (b + oLen op f j + x) = 48 + op (24 * f + 3 * j + x)) ∧ adN op f (j + 1) ≤ 9 ∧ 0 ≤ dN op f (j + 1) ∧ dN op f (j + 1) ≤ 3
def PDW (pg pd : Int → Int) (f b p w : Int) : Prop := pg (b + 5 * p + w) = 48 + pd (15 * f + 5 * p + w) ∧ 0 ≤ pd (15 * f + 5 * p + w) ∧ pd (15 * f + 5 * p + w) ≤ 9 ∧ (w = 3 → pd (15 * f + 5 * p + w) ≤ 4)
def PDK (pg pd : Int → Int) (f b p : Int) : Prop := zKind (pg (b + 5 * p)) = pd (15 * f + 5 * p) ∧ 0 ≤ pd (15 * f + 5 * p) ∧ pd (15 * f + 5 * p) ≤ 4
def PDS (pg pd : Int → Int) (f b n : Int) : Prop := ∀ p, 0 ≤ p → p < n → PDK pg pd f b p ∧ ∀ w, 1 ≤ w → w ≤ 4 → PDW pg pd f b p w
def fPos (om pm op : Int → Int) : Nat → Int
  | 0 => 0
  | f + 1 => fPos om pm op f + oLen op f (om f).toNat + 1 + 5 * pm f + 1
def FUL (pg om pm op pd : Int → Int) (f : Nat) : Prop := (0 ≤ om f ∧ om f ≤ 8 ∧ 0 ≤ pm f ∧ pm f ≤ 3) ∧ OPS pg op f (fPos om pm op f) (om f).toNat ∧ pg (fPos om pm op f + oLen op f (om f).toNat) = 59 ∧ PDS pg pd f (fPos om pm op f + oLen op f (om f).toNat + 1) (pm f)
def RENx (pg : Int → Int) (i : Int) (M O : Nat) (p isP l c7 ad ly : Int) (om pm op pd : Int → Int) : Prop :=
  (∀ f : Nat, f < M → FUL pg om pm op pd f ∧ pg (fPos om pm op (f + 1) - 1) = 47) ∧ OPS pg op M (fPos om pm op M) O ∧ (om M = O ∧ pm M = p ∧ adN op M O = ad ∧ dN op M O = ly) ∧
  (isP = 0 → p = 0 ∧ i = fPos om pm op M + oLen op M O + l ∧ (1 ≤ l → op (24 * M + 3 * O) = c7 ∧ pg (fPos om pm op M + oLen op M O) = c7) ∧
    (l = 2 → pg (fPos om pm op M + oLen op M O + 1) = 48 + op (24 * M + 3 * O + 1) ∧ 0 ≤ op (24 * M + 3 * O + 1) ∧ op (24 * M + 3 * O + 1) ≤ 3)) ∧
  (isP = 1 → pg (fPos om pm op M + oLen op M O) = 59 ∧ PDS pg pd M (fPos om pm op M + oLen op M O + 1) p ∧ i = fPos om pm op M + oLen op M O + 1 + 5 * p + l ∧
    (1 ≤ l → PDK pg pd M (fPos om pm op M + oLen op M O + 1) p) ∧ ∀ w, 1 ≤ w → w < l → PDW pg pd M (fPos om pm op M + oLen op M O + 1) p w)
def REN (pg : Int → Int) (i : Int) (s : zS) : Prop := ∃ M O : Nat, s.1 2 = M ∧ s.1 3 = O ∧ RENx pg i M O (s.1 4) (s.1 5) (s.1 6) (s.1 7) (s.1 8) (s.1 9) s.2.1 s.2.2.1 s.2.2.2.1 s.2.2.2.2
section RN
variable {pg om pm op pd om' pm' op' pd' : Int → Int} {f b i : Int} {n M O : Nat}
theorem oLen_cg (h : ∀ x, 24 * f ≤ x → x < 24 * f + 3 * n → op' x = op x) : oLen op' f n = oLen op f n := by
  induction n with
  | zero => rfl
  | succ n ih =>
    unfold oLen
    rw [ih fun x a b => h x a (by omega), h (24 * f + 3 * n) (by omega) (by omega)]
theorem dN_cg (h : ∀ x, 24 * f ≤ x → x < 24 * f + 3 * n → op' x = op x) : dN op' f n = dN op f n := by
  induction n with
  | zero => rfl
  | succ n ih =>
    unfold dN
    rw [ih fun x a b => h x a (by omega), h (24 * f + 3 * n) (by omega) (by omega)]
theorem adN_cg (h : ∀ x, 24 * f ≤ x → x < 24 * f + 3 * n → op' x = op x) : adN op' f n = adN op f n := by
  induction n with
  | zero => rfl
  | succ n ih =>
    unfold adN
    rw [ih fun x a b => h x a (by omega), h (24 * f + 3 * n) (by omega) (by omega), h (24 * f + 3 * n + 1) (by omega) (by omega)]
theorem OPS.cg (H : OPS pg op f b n) (h : ∀ x, 24 * f ≤ x → x < 24 * f + 3 * n → op' x = op x) : OPS pg op' f b n := by
  intro j hj
  obtain ⟨h1, h2, h3, h4, h5⟩ := H j hj
  have e0 := h (24 * f + 3 * j) (by omega) (by omega)
  have e1 := h (24 * f + 3 * j + 1) (by omega) (by omega)
  have e2 := h (24 * f + 3 * j + 2) (by omega) (by omega)
  have ez : ∀ v, zDig v ≤ 2 := fun v => by unfold zDig; (repeat' split) <;> omega
  unfold opV
  rw [e0, e1, e2, oLen_cg fun x a b => h x a (by omega), adN_cg fun x a b => h x a (by omega), dN_cg fun x a b => h x a (by omega)]
  refine ⟨h1, h2, fun x a b => ?_, h4, h5⟩
  have := ez (op (24 * f + 3 * j))
  rw [h _ (by omega) (by omega)]
  exact h3 x a b
theorem PDS.cg {n : Int} (H : PDS pg pd f b n) (h : ∀ x, 15 * f ≤ x → x < 15 * f + 5 * n → pd' x = pd x) : PDS pg pd' f b n := by
  intro p a c
  obtain ⟨h1, h2⟩ := H p a c
  refine ⟨?_, fun w x y => ?_⟩
  · unfold PDK; rw [h _ (by omega) (by omega)]; exact h1
  · unfold PDW; rw [h _ (by omega) (by omega)]; exact h2 w x y
theorem fPos_cg (hb : ∀ f : Nat, f < M → om f ≤ 8) (h : ∀ x : Int, 0 ≤ x → x < M → om' x = om x ∧ pm' x = pm x) (ho : ∀ x : Int, 0 ≤ x → x < 24 * M → op' x = op x) : fPos om' pm' op' M = fPos om pm op M := by
  induction M with
  | zero => rfl
  | succ M ih =>
    have e := h M (by omega) (by omega)
    have := hb M (by omega)
    unfold fPos
    rw [ih (fun f a => hb f (by omega)) (fun x a b => h x a (by omega)) (fun x a b => ho x a (by omega)), e.1, e.2, oLen_cg fun x a b => ho x (by omega) (by omega)]
theorem FUL.cg (H : ∀ f : Nat, f < M → FUL pg om pm op pd f ∧ pg (fPos om pm op (f + 1) - 1) = 47) (h : ∀ x : Int, 0 ≤ x → x < M → om' x = om x ∧ pm' x = pm x) (ho : ∀ x : Int, 0 ≤ x → x < 24 * M → op' x = op x) (hp : ∀ x : Int, 0 ≤ x → x < 15 * M → pd' x = pd x) :
    (∀ f : Nat, f < M → FUL pg om' pm' op' pd' f ∧ pg (fPos om' pm' op' (f + 1) - 1) = 47) ∧ fPos om' pm' op' M = fPos om pm op M := by
  have hb : ∀ f : Nat, f < M → om f ≤ 8 := fun f a => (H f a).1.1.2.1
  refine ⟨fun f a => ?_, fPos_cg hb h ho⟩
  obtain ⟨⟨h1, h2, h3, h4⟩, h5⟩ := H f a
  have e := h f (by omega) (by omega)
  rw [fPos_cg (M := f + 1) (fun g c => hb g (by omega)) (fun x c d => h x c (by omega)) (fun x c d => ho x c (by omega))]
  refine ⟨?_, h5⟩
  unfold FUL
  rw [e.1, e.2, fPos_cg (M := f) (fun g c => hb g (by omega)) (fun x c d => h x c (by omega)) (fun x c d => ho x c (by omega)), oLen_cg fun x c d => ho x (by omega) (by omega)]
  exact ⟨h1, h2.cg fun x c d => ho x (by omega) (by omega), h3, h4.cg fun x c d => hp x (by omega) (by omega)⟩
/-- an op is at its end -/
theorem RENx.fin {l c7 ad ly ad' ly' c7' : Int} (H : RENx pg i M O 0 0 l c7 ad ly om pm op pd) (hO : O < 8) (ho : ∀ x : Int, 0 ≤ x → x < 24 * M + 3 * O → op' x = op x) (hv : opV op' (24 * M + 3 * O)) (h0 : pg (fPos om pm op M + oLen op M O) = op' (24 * M + 3 * O))
    (hd : ∀ x, 1 ≤ x → x ≤ zDig (op' (24 * M + 3 * O)) → pg (fPos om pm op M + oLen op M O + x) = 48 + op' (24 * M + 3 * O + x)) (hi : i = fPos om pm op M + oLen op M O + zDig (op' (24 * M + 3 * O)))
    (ha : ad' = ad + if op' (24 * M + 3 * O) = 43 then op' (24 * M + 3 * O + 1) else 0) (ha9 : ad' ≤ 9) (hl : ly' = ly + if op' (24 * M + 3 * O) = 109 then 1 else if op' (24 * M + 3 * O) = 98 then -1 else 0) (hl3 : 0 ≤ ly' ∧ ly' ≤ 3) :
    RENx pg (i + 1) M (O + 1) 0 0 0 c7' ad' ly' (ui om M (O + 1)) pm op' pd := by
  obtain ⟨h1, h2, ⟨h3, h4, h5, h6⟩, h7, h8⟩ := H
  have k := FUL.cg (om' := ui om M (O + 1)) (pm' := pm) (op' := op') (pd' := pd) h1 (fun x a b => ⟨ui_n (by omega), rfl⟩) (fun x a b => ho x a (by omega)) fun _ _ _ => rfl
  have ea : adN op' M (O + 1) = ad' := by unfold adN; rw [adN_cg fun x a b => ho x (by omega) b, h5, ha]
  have el : dN op' M (O + 1) = ly' := by unfold dN; rw [dN_cg fun x a b => ho x (by omega) b, h6, hl]
  have eo : oLen op' M O = oLen op M O := oLen_cg fun x a b => ho x (by omega) b
  refine ⟨k.1, ?_, ⟨by rw [ui_s]; omega, h4, ea, el⟩, fun _ => ⟨rfl, ?_, fun c => absurd c (by decide), fun c => absurd c (by decide)⟩, fun c => absurd c (by decide)⟩
  · rw [k.2]
    intro j hj
    by_cases c : j = O
    · subst c
      rw [eo]
      exact ⟨hv, h0, hd, by rw [ea]; exact ha9, by rw [el]; exact hl3⟩
    · exact (h2.cg fun x a b => ho x (by omega) b) j (by omega)
  · rw [k.2]
    unfold oLen
    rw [eo]
    omega
end RN
