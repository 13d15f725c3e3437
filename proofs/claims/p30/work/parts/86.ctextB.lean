/-! ## what a text gives: the functions are sound; a ghost of them -/
theorem CVd.txt {pg : Int → Int} {len : Int} {nf : Nat} {E : qD} (hT : TXT pg len nf (E 37) (E 38) (E 39) (E 40)) (e14 : E 28 14 = nf) (hD : ∀ f : Nat, f < nf → DNE (E 39) f (E 37 f).toNat E 10) : CVd E := by
  obtain ⟨t1, t2, -⟩ := hT
  have nat : ∀ f : Int, 0 ≤ f → f < E 28 14 → ∃ g : Nat, f = g ∧ g < nf := fun f a b => ⟨f.toNat, by omega, by omega⟩
  have row : ∀ g : Nat, g < nf → ∀ x, 0 ≤ x → x < 10 → (∀ w, 0 ≤ w → w < 4 → -1 ≤ E 34 (40 * g + 4 * x + w) ∧ E 34 (40 * g + 4 * x + w) ≤ 5) ∧ (0 ≤ E 35 (10 * g + x) ∧ E 35 (10 * g + x) ≤ 3) ∧ 0 ≤ E 36 (10 * g + x) ∧ E 36 (10 * g + x) ≤ 9 := fun g hg x x0 x1 => by
    have hV := (t2 g hg).ov (by omega)
    obtain ⟨n, n1, -, -, n4, n5, n6⟩ := hD g hg x x0 x1
    have r := hV.r n n1
    have d := hV.d n n1
    refine ⟨fun w w0 w1 => ?_, ?_, ?_⟩
    · have := n4 w w0 w1
      rw [show E 34 (40 * (g : Int) + 4 * x + w) = (sR (E 39) g n).1 w from this]
      exact r.1 w
    · rw [n5]; exact d.1
    · rw [n6]; exact r.2
  refine ⟨by omega, fun f f0 f1 => ?_, fun f n f0 f1 n0 n1 => ?_, fun i i0 i1 => ?_, fun i i0 i1 => ?_, fun f p f0 f1 p0 p1 => ?_⟩
  · obtain ⟨g, rfl, hg⟩ := nat f f0 f1
    exact (t2 g hg).1
  · obtain ⟨g, rfl, hg⟩ := nat f f0 f1
    have h1 := (t2 g hg).1
    have h2 := ((t2 g hg).2.1 n.toNat (by omega)).1
    rw [show ((n.toNat : Nat) : Int) = n by omega] at h2
    exact h2
  · obtain ⟨g, e, hg⟩ := nat (i / 40) (by omega) (by omega)
    have h := (row g hg (i % 40 / 4) (by omega) (by omega)).1 (i % 4) (by omega) (by omega)
    rw [show 40 * (g : Int) + 4 * (i % 40 / 4) + i % 4 = i by omega] at h
    exact h
  · obtain ⟨g, e, hg⟩ := nat (i / 10) (by omega) (by omega)
    have h := (row g hg (i % 10) (by omega) (by omega)).2
    rw [show 10 * (g : Int) + i % 10 = i by omega] at h
    exact ⟨h.1.1, h.1.2, h.2⟩
  · obtain ⟨g, rfl, hg⟩ := nat f f0 f1
    have h1 := (t2 g hg).2.2.2 p p0 p1
    have k0 := h1.1
    have k1 := h1.2 1 (by omega) (by omega)
    have k2 := h1.2 2 (by omega) (by omega)
    have k3 := h1.2 3 (by omega) (by omega)
    have k4 := h1.2 4 (by omega) (by omega)
    unfold PDK at k0
    unfold PDW at k1 k2 k3 k4
    exact ⟨k0.2.1, k0.2.2, k1.2.1, k1.2.2.1, k2.2.1, k2.2.2.1, k3.2.1, k3.2.2.2 rfl, k4.2.1, k4.2.2.1⟩
/-- a ghost of the functions that a new object holds -/
def gTx (D : qD) (k nf : Nat) (om pm op pd : Int → Int) : qD := fun b => if b = 28 then fun _ => nf else if b = 37 then om else if b = 38 then pm else if b = 39 then op else if b = 40 then pd else
  if b = 34 then fun i => D (k + 1) (i / 4 * 6 + i % 4) else if b = 35 then fun i => D (k + 1) (i * 6 + 4) else fun i => D (k + 1) (i * 6 + 5)
theorem gTx.dne {D : qD} {k nf f : Nat} {om pm op pd : Int → Int} (h : CDN D k om pm op pd f) : DNE op f (om f).toNat (gTx D k nf om pm op pd) 10 := by
  intro x x0 x1
  obtain ⟨n, n1, n2, n3, n4, n5, n6⟩ := h.1.1 x x0 x1
  refine ⟨n, n1, n2, n3, fun w w0 w1 => ?_, ?_, ?_⟩
  · rw [← n4 w w0 w1]
    show D (k + 1) ((40 * (f : Int) + 4 * x + w) / 4 * 6 + (40 * (f : Int) + 4 * x + w) % 4) = _
    rw [show (40 * (f : Int) + 4 * x + w) / 4 * 6 + (40 * (f : Int) + 4 * x + w) % 4 = ((f : Int) * 10 + x) * 6 + w by omega]
  · rw [← n5]
    show D (k + 1) ((10 * (f : Int) + x) * 6 + 4) = _
    rw [show (10 * (f : Int) + x) * 6 + 4 = ((f : Int) * 10 + x) * 6 + 4 by omega]
  · rw [← n6]
    show D (k + 1) ((10 * (f : Int) + x) * 6 + 5) = _
    rw [show (10 * (f : Int) + x) * 6 + 5 = ((f : Int) * 10 + x) * 6 + 5 by omega]
theorem gTx.cr {t : qT} {D G : qD} {k nf : Nat} {om pm op pd : Int → Int} (hL : t.2.1 k 1 = k + 1 ∧ t.2.1 k 2 = k + 2 ∧ t.2.1 k 3 = k + 3 ∧ t.2.1 k 4 = k + 4 ∧ t.2.1 k 5 = k + 5) (h0 : D k 0 = nf) (hT : TXT (G 29) (G 28 1) nf om pm op pd) (hD : ∀ f : Nat, f < nf → CDN D k om pm op pd f) :
    CR t D k (gTx D k nf om pm op pd) ∧ CVd (gTx D k nf om pm op pd) :=
  have e2 : ∀ f : Nat, f < nf → DNE op f (om f).toNat (gTx D k nf om pm op pd) 10 := fun f hf => gTx.dne (hD f hf)
  ⟨CR.tx0 (s := (fun _ => 0, om, pm, op, pd)) hL h0 hT hD e2 rfl ⟨fun _ _ _ => ⟨rfl, rfl⟩, fun _ _ _ => rfl, fun _ _ _ => rfl⟩, CVd.txt (E := gTx D k nf om pm op pd) hT rfl e2⟩
/-- after a text: the functions, the machine's row -/
theorem TX.cv {G E : qD} {nf : Nat} (h : TX G E nf) : CVd E := CVd.txt h.1 h.2.2.1.1 h.2.1
theorem TX.rv {G E : qD} {nf : Nat} (h : TX G E nf) : RVd (E 28 14) (E 42) := by
  have hC := h.cv
  obtain ⟨-, -, ⟨e14, -⟩, -, -, h9, h42⟩ := h
  have kd : ∀ i, 0 ≤ i → i < 9 → 0 ≤ E 42 i ∧ E 42 i ≤ 4 := fun i i0 i1 => by
    have e := h42 (i / 3) (i % 3) (by omega) (by omega) (by omega) (by omega)
    rw [show 3 * (i / 3) + i % 3 = i by omega] at e
    rw [e]
    by_cases c : i / 3 < (nf : Int) ∧ i % 3 < E 38 (i / 3)
    · rw [if_pos c]
      have := hC.2.2.2.2.2 (i / 3) (i % 3) (by omega) (by omega) (by omega) c.2
      exact ⟨this.1, this.2.1⟩
    · rw [if_neg c]; exact ⟨Int.le_refl _, by decide⟩
  refine ⟨?_, fun l l0 l1 => ?_, kd, ?_, fun i i0 i1 => ?_⟩
  · rw [h9 13 (by omega) (by omega)]; exact ⟨Int.le_refl _, by decide⟩
  · rw [h9 13 (by omega) (by omega)] at l1; exact absurd l1 (by omega)
  · rw [h9 78 (by omega) (by omega)]; exact ⟨Int.le_refl _, by decide⟩
  · by_cases c : i < 9
    · have := kd i i0 c; exact ⟨by omega, by omega⟩
    · rw [h9 i (by omega) i1]; exact ⟨by omega, by omega⟩
