/-! ## the loop of the law -/
section LL
variable {S : (Nat → Int32) × Nat} {Q : Int → qT → qD → Prop}
theorem law_sw {t : qT} {D : qD} {l3 : Int} {c : Nat} (hI : IV c t D) (hc : c < 512) (h0 : 0 ≤ l3) (h5 : l3 + 5 ≤ S.2) (h6 : l3 + 5 < 2147483648) (hS : S.2 ≤ 2560) (q : ∀ t' D' c', IV c' t' D' → c ≤ c' → c' ≤ c + 1 → wp S 188 848 [some qx, some (qs 0), some (qs 28), some (qi l3)] [] t' D' Q) : wp S 188 18 [some qx, some (qs 0), some (qs 28), some (qi l3)] [] t D Q := by
  have q1 : ∀ t' D', IV (c + 1) t' D' → wp S 188 848 [some qx, some (qs 0), some (qs 28), some (qi l3)] [] t' D' Q := fun t' D' h => q t' D' (c + 1) h (Nat.le_succ c) (Nat.le_refl _)
  refine b188_18 (chk_i ⟨by omega, by omega⟩ (chk_i ⟨by omega, by omega⟩ (ite_i (fun z => absurd z (by omega)) fun _ => chk_i ⟨by omega, by omega, by omega⟩ (chk_i (i32_R _) ?_))))
  generalize qand (S.1 l3.toNat).toInt 31 = v
  exact ite_i (fun _ => law_0 hI hc h0 h5 h6 q1) fun _ => ite_i (fun _ => law_1 hI hc h0 h5 h6 q1) fun _ => ite_i (fun _ => law_2 hI hc h0 h5 h6 q1) fun _ => ite_i (fun _ => law_3 hI hc h0 h5 h6 q1) fun _ => ite_i (fun _ => law_4 hI hc h0 h5 h6 q1) fun _ => ite_i (fun _ => law_5 hI hc h0 h5 h6 q1) fun _ => ite_i (fun _ => law_6 hI hc h0 h5 h6 q1) fun _ => ite_i (fun _ => law_7 hI hc h0 h5 h6 q1) fun _ => ite_i (fun _ => law_8 hI hc h0 h5 h6 q1) fun _ => ite_i (fun _ => law_9 hI hc h0 h5 h6 q1) fun _ => ite_i (fun _ => law_10 hI hc h0 h5 h6 q1) fun _ => ite_i (fun _ => law_11 hI hc h0 h5 h6 q1) fun _ => ite_i (fun _ => law_12 hI hc h0 h5 h6 q1) fun _ => ite_i (fun _ => law_13 hI hc h0 h5 h6 q1) fun _ => ite_i (fun _ => law_14 hI hc h0 h5 h6 q1) fun _ => ite_i (fun _ => law_15 hI hc h0 h5 h6 q1) fun _ => ite_i (fun _ => law_16 hI hc h0 h5 h6 q1) fun _ => ite_i (fun _ => law_17 hI hc h0 h5 h6 q1) fun _ => ite_i (fun _ => law_18 hI hc h0 h5 h6 q1) fun _ => ite_i (fun _ => law_19 hI hc h0 h5 h6 q1) fun _ => ite_i (fun _ => law_20 hI hc h0 h5 h6 q1) fun _ => ite_i (fun _ => law_21 hI hc h0 h5 h6 q1) fun _ => ite_i (fun _ => law_22 hI hc h0 h5 h6 q1) fun _ => ite_i (fun _ => law_23 hI hc h0 h5 h6 q1) fun _ => ite_i (fun _ => law_24 hI hc h0 h5 h6 q1) fun _ => ite_i (fun _ => law_25 hI hc h0 h5 h6 q1) fun _ => ite_i (fun _ => law_26 hI hc h0 h5 h6 q1) fun _ => q t D c hI (Nat.le_refl _) (Nat.le_succ c)
set_option maxRecDepth 100000 in
theorem law_loop (hS : S.2 ≤ 2560) (q : ∀ t' D', t'.2.2.1 ≤ 13000 → t'.2.2.2 ≤ 320000 → Q 1 t' D') : ∀ (m : Nat) (j : Nat) (l3 : Int) (c : Nat) (t : qT) (D : qD), l3 = 5 * j → j + m = S.2 / 5 → c ≤ j → IV c t D → wp S 188 18 [some qx, some (qs 0), some (qs 28), some (qi l3)] [] t D Q := by
  intro m
  induction m with
  | zero =>
    intro j l3 c t D e hj hc hI
    have hn := hI.2.2.2.1
    have hs := hI.2.2.2.2
    refine b188_18 (chk_i ⟨by omega, by omega⟩ (chk_i ⟨by omega, by omega⟩ (ite_i (fun z => q t D (by omega) (by omega)) fun z => absurd (show (S.2 : Int) - 5 < l3 by omega) z)))
  | succ m ih =>
    intro j l3 c t D e hj hc hI
    refine law_sw hI (by omega) (by omega) (by omega) (by omega) hS fun t' D' c' h a b => b188_848 (ih (j + 1) (l3 + 5) c' t' D' (by omega) (by omega) (by omega) h)
end LL
