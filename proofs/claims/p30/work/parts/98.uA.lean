/-! ## what stands behind the text: a ghost of the functions -/
def nA (op : Int → Int) (f x : Int) : Nat → Nat → Nat
  | 0, n => n
  | m + 1, n => if op (24 * f + 3 * n) = 43 ∧ x < adN op f (n + 1) then n else nA op f x m (n + 1)
theorem nA_r {op : Int → Int} {f x : Int} {M : Nat} : ∀ (m n : Nat), n + m = M → adN op f n ≤ x → nA op f x m n ≤ M ∧ adN op f (nA op f x m n) ≤ x ∧ (nA op f x m n = M ∨ (op (24 * f + 3 * (nA op f x m n : Nat)) = 43 ∧ x < adN op f (nA op f x m n + 1))) := by
  intro m
  induction m with
  | zero => intro n hn h; exact ⟨by show n ≤ M; omega, h, Or.inl (by show n = M; omega)⟩
  | succ m ih =>
    intro n hn h
    unfold nA
    by_cases c : op (24 * f + 3 * n) = 43 ∧ x < adN op f (n + 1)
    · rw [if_pos c]; exact ⟨by omega, h, Or.inr c⟩
    · rw [if_neg c]
      refine ih (n + 1) (by omega) ?_
      have e : adN op f (n + 1) = adN op f n + if op (24 * f + 3 * n) = 43 then op (24 * f + 3 * n + 1) else 0 := rfl
      by_cases c2 : op (24 * f + 3 * n) = 43
      · exact Int.not_lt.mp fun h2 => c ⟨c2, h2⟩
      · rw [if_neg c2] at e; omega
def gE (G : qD) (s : zS) (nf : Int) : qD := fun b =>
  if b = 28 then (fun i => if i = 14 then nf else if i = 27 ∨ i = 31 ∨ i = 1 then 0 else if i = 15 then G 28 15 + 1 else G 28 i)
  else if b = 34 then (fun i => (sR s.2.2.2.1 (i / 40) (nA s.2.2.2.1 (i / 40) (i % 40 / 4) (s.2.1 (i / 40)).toNat 0)).1 (i % 4))
  else if b = 35 then (fun i => (sR s.2.2.2.1 (i / 10) (nA s.2.2.2.1 (i / 10) (i % 10) (s.2.1 (i / 10)).toNat 0)).2)
  else if b = 36 then (fun i => cA s.2.2.2.1 (i / 10) (nA s.2.2.2.1 (i / 10) (i % 10) (s.2.1 (i / 10)).toNat 0))
  else if b = 37 then s.2.1 else if b = 38 then s.2.2.1 else if b = 39 then s.2.2.2.1 else if b = 40 then s.2.2.2.2
  else if b = 42 then (fun i => if 0 ≤ i ∧ i < 9 ∧ i / 3 < nf ∧ i % 3 < s.2.2.1 (i / 3) then s.2.2.2.2 (15 * (i / 3) + 5 * (i % 3)) else 0)
  else G b
theorem gE.o {G : qD} {s : zS} {nf : Int} {b : Nat} (h : b ≠ 28 ∧ b ≠ 34 ∧ b ≠ 35 ∧ b ≠ 36 ∧ b ≠ 37 ∧ b ≠ 38 ∧ b ≠ 39 ∧ b ≠ 40 ∧ b ≠ 42) : gE G s nf b = G b := by
  unfold gE
  rw [if_neg h.1, if_neg h.2.1, if_neg h.2.2.1, if_neg h.2.2.2.1, if_neg h.2.2.2.2.1, if_neg h.2.2.2.2.2.1, if_neg h.2.2.2.2.2.2.1, if_neg h.2.2.2.2.2.2.2.1, if_neg h.2.2.2.2.2.2.2.2]
theorem gE.dne {G : qD} {s : zS} {nf : Int} {f : Nat} (hV : OV s.2.2.2.1 f (s.2.1 f).toNat) : DNE s.2.2.2.1 f (s.2.1 f).toNat (gE G s nf) 10 := by
  intro x x0 x1
  have h := nA_r (op := s.2.2.2.1) (f := f) (x := x) (M := (s.2.1 f).toNat) (s.2.1 f).toNat 0 (Nat.zero_add _) x0
  refine ⟨nA s.2.2.2.1 f x (s.2.1 f).toNat 0, h.1, h.2.1, h.2.2, fun w w0 w1 => ?_, ?_, ?_⟩
  · show (sR s.2.2.2.1 ((40 * f + 4 * x + w) / 40) (nA s.2.2.2.1 ((40 * f + 4 * x + w) / 40) ((40 * f + 4 * x + w) % 40 / 4) (s.2.1 ((40 * f + 4 * x + w) / 40)).toNat 0)).1 ((40 * f + 4 * x + w) % 4) = _
    rw [show (40 * (f : Int) + 4 * x + w) / 40 = f by omega, show (40 * (f : Int) + 4 * x + w) % 40 / 4 = x by omega, show (40 * (f : Int) + 4 * x + w) % 4 = w by omega]
  · show (sR s.2.2.2.1 ((10 * f + x) / 10) (nA s.2.2.2.1 ((10 * f + x) / 10) ((10 * f + x) % 10) (s.2.1 ((10 * f + x) / 10)).toNat 0)).2 = _
    rw [show (10 * (f : Int) + x) / 10 = f by omega, show (10 * (f : Int) + x) % 10 = x by omega]
  · show cA s.2.2.2.1 ((10 * f + x) / 10) (nA s.2.2.2.1 ((10 * f + x) / 10) ((10 * f + x) % 10) (s.2.1 ((10 * f + x) / 10)).toNat 0) = _
    rw [show (10 * (f : Int) + x) / 10 = f by omega, show (10 * (f : Int) + x) % 10 = x by omega]
theorem gE.tx {G : qD} {s : zS} {nf : Nat} (hT : TXT (G 29) (G 28 1) nf s.2.1 s.2.2.1 s.2.2.2.1 s.2.2.2.2) : TX G (gE G s nf) nf ∧ TXs (gE G s nf) s := by
  refine ⟨⟨hT, fun f hf => gE.dne ((hT.2.1 f hf).ov (by have := hT.1.2; omega)), ⟨rfl, rfl, rfl, rfl, rfl, rfl⟩, fun b hb => gE.o (by omega), fun b hb => gE.o (by omega), fun i i0 i1 => ?_, fun f p f0 f1 p0 p1 => ?_⟩, fun i _ _ => ⟨rfl, rfl⟩, fun i _ _ => rfl, fun i _ _ => rfl⟩
  · show (if 0 ≤ i ∧ i < 9 ∧ i / 3 < _ ∧ i % 3 < s.2.2.1 (i / 3) then _ else 0) = (0 : Int)
    rw [if_neg (by omega)]
  · show (if 0 ≤ 3 * f + p ∧ 3 * f + p < 9 ∧ (3 * f + p) / 3 < (nf : Int) ∧ (3 * f + p) % 3 < s.2.2.1 ((3 * f + p) / 3) then s.2.2.2.2 (15 * ((3 * f + p) / 3) + 5 * ((3 * f + p) % 3)) else 0) = if f < (nf : Int) ∧ p < s.2.2.1 f then s.2.2.2.2 (15 * f + 5 * p) else 0
    rw [show (3 * f + p) / 3 = f by omega, show (3 * f + p) % 3 = p by omega]
    by_cases c : f < (nf : Int) ∧ p < s.2.2.1 f
    · rw [if_pos c, if_pos ⟨by omega, by omega, c.1, c.2⟩]
    · rw [if_neg c, if_neg (fun z => c z.2.2)]
theorem fPos_m {pg om pm op pd : Int → Int} {nf : Nat} (h : ∀ f : Nat, f < nf → FUL pg om pm op pd f) : ∀ (m f : Nat), f + m = nf → 0 ≤ fPos om pm op f ∧ fPos om pm op f ≤ fPos om pm op nf := by
  have h0 : ∀ f : Nat, f ≤ nf → 0 ≤ fPos om pm op f := by
    intro f
    induction f with
    | zero => intro _; exact Int.le_refl _
    | succ f ih =>
      intro hf
      have h1 := (h f (by omega)).1
      have h2 := oLe op f (om f).toNat 0 (Nat.zero_le _)
      have e0 : oLen op f 0 = 0 := rfl
      have := ih (by omega)
      unfold fPos; omega
  intro m
  induction m with
  | zero => intro f hf; rw [show f = nf by omega]; exact ⟨h0 nf (Nat.le_refl _), Int.le_refl _⟩
  | succ m ih =>
    intro f hf
    have := ih (f + 1) (by omega)
    have h1 := (h f (by omega)).1
    have h2 := oLe op f (om f).toNat 0 (Nat.zero_le _)
    have e0 : oLen op f 0 = 0 := rfl
    have e : fPos om pm op (f + 1) = fPos om pm op f + oLen op f (om f).toNat + 1 + 5 * pm f + 1 := rfl
    exact ⟨h0 f (by omega), by omega⟩
/-- the text that is spelled: its reading, the ghost, and what the law keeps of it -/
theorem txt_of {T B Dk : Int → Int} {n nf : Nat} {p : Int} {G : qD} (hnf : 1 ≤ nf ∧ nf ≤ 3) (hn : (n : Int) ≤ 62) (hP : PDP T B Dk n (nf - 1) p) (hB : B (4 + ((nf - 1 : Nat) : Int)) = p) (hB0 : B 0 = nf) (h1 : G 28 1 = n) (hg : ∀ i, 0 ≤ i → i < (n : Int) → G 29 i = T i) : ∃ s, GOOD G s ∧ (vRead G).1 = n ∧ s.1 2 + 1 = nf ∧ TXT (G 29) (G 28 1) nf s.2.1 s.2.2.1 s.2.2.2.1 s.2.2.2.2 ∧ TB B T (gE G s nf) ∧ ∀ i, 0 ≤ i → i < 9 → Dk i = gE G s nf 42 i := by
  obtain ⟨hl, hs⟩ := hP
  obtain ⟨s, r1, r2, r3⟩ := hs G
  obtain ⟨m2, m4, m5, m6⟩ := id r2
  obtain ⟨-, -, a2, -⟩ := rd_pd hl r1 r2
  have r1' : rd (z0 G) (G 29) n = some s := by rw [rd_cg n hg]; exact r1
  have hv : vRead G = ((n : Int), some s) := by
    unfold vRead
    rw [h1]
    exact rd_run r1' n 0 100 (z0 G) (Nat.zero_add _) (by omega) rfl
  have hl' : LTs (G 29) n := fun i a b => by rw [hg i a b]; exact hl i a b
  obtain ⟨x1, x2⟩ := rd_ren hl' r1'
  obtain ⟨y1, y2⟩ := rd_ren hl r1
  obtain ⟨M, e1, e2⟩ := x1.txt x2 m5 m6
  obtain ⟨M', e3, e4⟩ := y1.txt y2 m5 m6
  have em : M + 1 = nf := by omega
  have em' : M' + 1 = nf := by omega
  rw [em] at e2
  rw [em'] at e4
  refine ⟨s, ⟨by rw [hv], by rw [hv]; exact h1.symm, m5, m6⟩, by rw [hv], by omega, by rw [h1]; exact e2, ⟨hB0, ⟨?_, ?_⟩, fun f hf => ?_⟩, fun i i0 i9 => ?_⟩
  · show (1 : Int) ≤ nf; omega
  · show (nf : Int) ≤ 3; omega
  · have hf : f < nf := by have h : (f : Int) < nf := hf; omega
    have hF := e4.2.1 f hf
    have hm := fPos_m e4.2.1 (nf - f) f (by omega)
    have hm1 := fPos_m e4.2.1 (nf - (f + 1)) (f + 1) (by omega)
    have ee : fPos s.2.1 s.2.2.1 s.2.2.2.1 (f + 1) = fPos s.2.1 s.2.2.1 s.2.2.2.1 f + oLen s.2.2.2.1 f (s.2.1 f).toNat + 1 + 5 * s.2.2.1 f + 1 := rfl
    have he := e4.2.2.2
    refine ⟨⟨(r3.2.1 f (by omega)).1, ?_⟩, hF, (r3.2.1 f (by omega)).2, ⟨hm.1, ?_⟩, gE.dne (hF.ov (by omega)), by omega⟩
    · by_cases c : f = nf - 1
      · show B (4 + f) = s.2.2.1 f
        rw [c, a2]; exact hB
      · exact r3.1 f (by omega)
    · show fPos s.2.1 s.2.2.1 s.2.2.2.1 f + oLen s.2.2.2.1 f (s.2.1 f).toNat + 1 + 5 * s.2.2.1 f ≤ 64
      omega
  · have h := r3.2.2 (i / 3) (i % 3) (by omega) (by omega) (by omega) (by omega)
    rw [show 3 * (i / 3) + i % 3 = i by omega] at h
    rw [h]
    show _ = if 0 ≤ i ∧ i < 9 ∧ i / 3 < (nf : Int) ∧ i % 3 < s.2.2.1 (i / 3) then s.2.2.2.2 (15 * (i / 3) + 5 * (i % 3)) else 0
    by_cases c : i / 3 ≤ ((nf - 1 : Nat) : Int) ∧ i % 3 < s.2.2.1 (i / 3)
    · rw [if_pos c, if_pos ⟨i0, i9, by omega, c.2⟩]
    · rw [if_neg c, if_neg (fun z => c ⟨by omega, z.2.2.2⟩)]
/-! ## the law's machine against the class -/
theorem XJ.kx {t t' : qT} {D D' G : qD} {k : Nat} (h : XJ t D G k) (hn : t.2.2.1 ≤ t'.2.2.1) (e : ∀ b, b < t.2.2.1 → t'.1 b = t.1 b ∧ t'.2.1 b = t.2.1 b ∧ (¬ (28 ≤ b ∧ b < 34) → D' b = D b)) : XJ t' D' G k := by
  have h34 := h.1
  have hX := h
  obtain ⟨-, ⟨hp, -⟩, -, -, -, hs, -, -⟩ := h
  have ed : ∀ b, b < 28 → D' b = D b := fun b hb => (e b (by omega)).2.2 (by omega)
  refine hX.cg ⟨hn, fun b hb => ?_⟩ (by rw [(e 0 (by omega)).2.1]) (by rw [(e 0 (by omega)).2.1]) (e 4 (by omega)).2.1 (e 6 (by omega)).2.1 (by rw [ed 0 (by decide)]) (ed 3 (by decide)) (ed 5 (by decide)) ⟨ed 11 (by decide), ed 12 (by decide), ed 13 (by decide), ed 14 (by decide)⟩ (fun _ _ _ _ => rfl) (fun _ _ _ _ _ _ => rfl) (hp.of (ed 1 (by decide)) (ed 2 (by decide))) ?_
  · have hb' : b < t.2.2.1 ∧ (15 ≤ b ∧ b < 28 ∨ 34 ≤ b) := hb
    exact ⟨(e b hb'.1).1, (e b hb'.1).2.1, (e b hb'.1).2.2 (by omega)⟩
  · unfold SRl
    rw [ed 7 (by decide), ed 8 (by decide), ed 9 (by decide), ed 10 (by decide)]
    exact hs
def LI (t : qT) (D G : qD) : Prop := (∃ k, XJ t D G k) ∧ RVs G ∧ TB (D 28) (D 30) G ∧ (∀ i, 0 ≤ i → i < 9 → D 29 i = G 42 i) ∧ MW 31 32 D (G 42) ∧ GK 33 D (G 42)
theorem LI.kx {t t' : qT} {D D' G : qD} {a1 a2 c s : Nat} (h : LI t D G) (hk : KX a1 a2 t t' D D' c s) (h1 : t.2.2.1 ≤ a1) (h2 : t.2.2.1 ≤ a2) : LI t' D' G := by
  obtain ⟨⟨k, hX⟩, hR, hT, h9, hM, hG⟩ := h
  have h34 := hX.1
  have e : ∀ b, b < t.2.2.1 → D' b = D b := fun b hb => (hk.2 b hb).2.2 (by omega) (by omega)
  refine ⟨⟨k, hX.kx hk.1.1 fun b hb => ⟨(hk.2 b hb).1, (hk.2 b hb).2.1, fun _ => e b hb⟩⟩, hR, ?_, ?_, hM.cg (e 31 (by omega)) (e 32 (by omega)) (fun _ _ _ => rfl), ?_⟩
  · rw [e 28 (by omega), e 30 (by omega)]; exact hT
  · rw [e 29 (by omega)]; exact h9
  · exact ⟨by rw [e 33 (by omega)]; exact hG.1, fun i a b => by rw [e 33 (by omega)]; exact hG.2 i a b⟩
