/-! ## the reference's methods: reads -/
section RA
variable {S : (Nat → Int32) × Nat} {t : qT} {D : qD} {Q : Int → qT → qD → Prop}
theorem c110 {v lo hi : Int} (hv : qR v) (hl : qR lo) (hh : qR hi) (k : Q (if lo ≤ v ∧ v ≤ hi then 1 else 0) t D) : wp S 110 0 [some (ql v), none, some (ql lo), none, some (ql hi), none] [] t D Q := by
  refine b110_0 (chk_i (by omega) (chk_i qcmp_R (ite_i (fun h => ?_) (fun h => chk_i (by omega) (chk_i qcmp_R (ite_i (fun h2 => ?_) (fun h2 => ?_)))))))
  · rw [qcmp_lt] at h
    rwa [if_neg (by omega)] at k
  · rw [qcmp_gt] at h2
    rwa [if_neg (by omega)] at k
  · rw [qcmp_lt] at h; rw [qcmp_gt] at h2
    rwa [if_pos (by omega)] at k
theorem c128 (h : 0 ≤ D 28 14 ∧ D 28 14 ≤ 3) (k : Q (if D 28 14 = 0 then 1 else 0) t D) : wp S 128 0 [some (qs 28)] [] t D Q := by
  refine b128_0 (chk_i (by omega) (ite_i (fun h => ?_) (fun h => ?_)))
  · rwa [if_pos h] at k
  · rwa [if_neg h] at k
theorem c129 {f : Int} (hf : qR f) (h : 0 ≤ D 28 14 ∧ D 28 14 ≤ 3) (k : Q (if 0 ≤ f ∧ f < D 28 14 then 1 else 0) t D) : wp S 129 0 [some (qs 28), some (qi f)] [] t D Q := by
  refine b129_0 (chk_i hf (chk_i (by omega) (c110 hf (by omega) (by omega) ?_)))
  by_cases c : 0 ≤ f ∧ f < D 28 14
  · rw [if_pos c] at k
    rw [if_pos (by omega)]
    exact chk_i (by omega) k
  · rw [if_neg c] at k
    rw [if_neg (by omega)]
    exact chk_i (by omega) k
theorem c130 {f p : Int} (hf : qR f) (hp : qR p) (h : CVd D) (k : Q (if 0 ≤ f ∧ f < D 28 14 ∧ 0 ≤ p ∧ p < D 38 f then 1 else 0) t D) : wp S 130 0 [some (qs 28), some (qi f), some (qi p)] [] t D Q := by
  refine b130_0 (c129 hf h.1 ?_)
  by_cases c : 0 ≤ f ∧ f < D 28 14
  · have h2 := h.2.1 f c.1 c.2
    have h1 := h.1
    rw [if_pos c]
    refine chk_i (by omega) (ite_i (fun h => absurd h (by omega)) fun _ => chk_i hp (chk_i (by omega) (chk_i (by omega) (c110 hp (by omega) (by omega) ?_))))
    by_cases c2 : 0 ≤ p ∧ p < D 38 f
    · rw [if_pos (by omega)] at k
      rw [if_pos (by omega)]
      exact chk_i (by omega) (ite_i (fun h => absurd h (by omega)) fun _ => k)
    · rw [if_neg (by omega)] at k
      rw [if_neg (by omega)]
      exact chk_i (by omega) (ite_i (fun h => k) fun h => absurd rfl h)
  · rw [if_neg c]
    rw [if_neg (by omega)] at k
    exact chk_i (by omega) (ite_i (fun h => k) fun h => absurd rfl h)
theorem c133 (k : Q (D 42 13) t D) : wp S 133 0 [some (qs 28)] [] t D Q := b133_0 k
theorem c134 {n : Int} (k : Q (sAt (D 42) n) t D) : wp S 134 0 [some (qs 28), some (qi n)] [] t D Q := b134_0 k
theorem c143 {k o ty : Int} (hk : qR k) (ho : qR o) (ht : qR ty) (h : Q (if sDoes k o ty = 1 then 1 else 0) t D) : wp S 143 0 [some (qi k), some (qi o), some (qi ty)] [] t D Q := by
  unfold sDoes at h
  refine b143_0 (chk_i hk (ite_i (fun h1 => ?_) fun h1 => ite_i (fun h2 => ?_) fun h2 => ite_i (fun h3 => chk_i ht (chk_i ho (ite_i (fun h4 => ?_) fun h4 => ?_))) fun h3 => chk_i ht (chk_i ho (ite_i (fun h4 => ?_) fun h4 => ?_))))
  · simpa [h1] using h
  · simpa [h2] using h
  · simpa [h1, h2, h3, h4] using h
  · simpa [h1, h2, h3, h4] using h
  · simpa [h1, h2, h3, h4] using h
  · rw [if_neg h1, if_neg h2, if_neg h3, if_neg h4] at h
    by_cases h5 : k = 4
    · rw [if_pos h5] at h; exact h
    · rw [if_neg h5] at h; exact h
theorem c144 {k o ty : Int} (hk : qR k) (ho : qR o) (ht : qR ty) (h : Q (sDoes k o ty) t D) : wp S 144 0 [some (qi k), some (qi o), some (qi ty)] [] t D Q := by
  refine b144_0 (c143 hk ho ht ?_)
  by_cases c : sDoes k o ty = 1
  · rw [if_pos c]
    rw [c] at h
    exact chk_i (by omega) (ite_i (fun h => absurd h (by omega)) fun _ => h)
  · rw [if_neg c]
    have e : sDoes k o ty = if k = 2 then 2 else if k = 4 then 2 else 0 := by
      unfold sDoes at c ⊢
      (repeat' split) <;> first | rfl | omega
    rw [e] at h
    refine chk_i (by omega) (ite_i (fun _ => chk_i hk (ite_i (fun h2 => ?_) fun h2 => chk_i hk (ite_i (fun h4 => ?_) fun h4 => ?_))) fun h => absurd rfl h)
    · rwa [if_pos h2] at h
    · rwa [if_neg h2, if_pos h4] at h
    · rwa [if_neg h2, if_neg h4] at h
theorem sDoes_r (k o ty : Int) : 0 ≤ sDoes k o ty ∧ sDoes k o ty ≤ 2 := by
  unfold sDoes
  (repeat' split) <;> omega
theorem sDA_r (pd N : Int → Int) (f p adr ty : Int) : 0 ≤ sDA pd N f p adr ty ∧ sDA pd N f p adr ty ≤ 2 := by
  unfold sDA
  split
  · exact sDoes_r _ _ _
  · omega
theorem c145 {f p adr ty : Int} (h : CVd D) (hf : 0 ≤ f ∧ f < D 28 14) (hp : 0 ≤ p ∧ p < D 38 f) (ha : qR adr) (ht : qR ty) (hN : ∀ k, 0 ≤ k → k < 9 → 0 ≤ D 42 k ∧ D 42 k ≤ 4) (k : Q (sDA (D 40) (D 42) f p adr ty) t D) : wp S 145 0 [some (qs 28), some (qi f), some (qi p), some (qi adr), some (qi ty), none] [] t D Q := by
  have h1 := h.1
  have h2 := h.2.1 f hf.1 hf.2
  have h3 := h.2.2.2.2.2 f p hf.1 hf.2 hp.1 hp.2
  have h4 := hN (3 * f + p) (by omega) (by omega)
  refine b145_0 (chk_i ha (chk_i (by omega) (chk_i (by omega) (chk_i (by omega) (chk_i (by omega) (c110 ha (by omega) (by omega) ?_))))))
  unfold sDA at k
  by_cases c : D 40 (15 * f + 5 * p + 1) ≤ adr ∧ adr ≤ D 40 (15 * f + 5 * p + 2)
  · rw [if_pos c] at k ⊢
    exact chk_i (by omega) (ite_i (fun h => absurd h (by omega)) fun _ => chk_i (by omega) (chk_i (by omega) (c144 (by omega) (by omega) ht k)))
  · rw [if_neg c] at k ⊢
    exact chk_i (by omega) (ite_i (fun _ => k) fun h => absurd rfl h)
end RA
