/-! ## reading: the reference to the end of the page; the class's reader -/
def z0 (D : qD) : zS := (ui (ui (ui (ui (ui (ui (ui (D 28) 2 0) 3 0) 4 0) 5 0) 6 0) 8 0) 9 0, ui (D 30) 0 0, ui (D 31) 0 0, D 32, D 33)
def zRun (pg : Int → Int) (len : Int) : Nat → Int → zS → Int × Option zS
  | 0, i, s => (i, some s)
  | n + 1, i, s => if i < len then (match zStep s (pg i) with | some s' => zRun pg len n (i + 1) s' | none => (i, none)) else (i, some s)
def vRead (D : qD) : Int × Option zS := zRun (D 29) (D 28 1) 100 0 (z0 D)
def zVp (m o p i l op ad ly q : Int) : Prop := (0 ≤ m ∧ m ≤ 2) ∧ (0 ≤ o ∧ o ≤ 8) ∧ (0 ≤ p ∧ p ≤ 3) ∧ (i = 0 ∨ i = 1) ∧ (0 ≤ ad ∧ ad ≤ 9) ∧ (0 ≤ ly ∧ ly ≤ 3) ∧
  (i = 0 → l = 0 ∨ (o < 8 ∧ ((op = 43 ∧ l = 1) ∨ (op = 117 ∧ l = 1) ∨ (op = 115 ∧ (l = 1 ∨ l = 2))))) ∧ (i = 1 → 0 ≤ l ∧ l ≤ 4 ∧ (l = 0 ∨ p < 3)) ∧ (i = 1 → l = 2 → 0 ≤ q ∧ q ≤ 9)
theorem zVp_of {s : zS} (h : zV s) : zVp (s.1 2) (s.1 3) (s.1 4) (s.1 5) (s.1 6) (s.1 7) (s.1 8) (s.1 9) (s.2.2.2.2 (15 * s.1 2 + 5 * s.1 4 + 1)) := h
theorem zV_step {s s' : zS} {c : Int} (hc : 1 ≤ c ∧ c ≤ 126) (h : zV s) (e : zStep s c = some s') : zV s' := by
  have hk := zKind_r c
  have h := zVp_of h
  unfold zVp at h
  unfold zStep at e
  split at e
  · rename_i h5
    split at e
    · rename_i h6
      unfold zOp0 at e
      split at e
      · cases e
        show zVp (s.1 2) (s.1 3) (s.1 4) 1 (s.1 6) (s.1 7) (s.1 8) (s.1 9) (s.2.2.2.2 (15 * s.1 2 + 5 * s.1 4 + 1))
        unfold zVp; omega
      · split at e
        · cases e
        · split at e
          · cases e
            show zVp (s.1 2) (s.1 3) (s.1 4) (s.1 5) 1 c (s.1 8) (s.1 9) (s.2.2.2.2 (15 * s.1 2 + 5 * s.1 4 + 1))
            unfold zVp; omega
          · split at e
            · cases e
              show zVp (s.1 2) (s.1 3 + 1) (s.1 4) (s.1 5) 0 c (s.1 8) (s.1 9 + 1) (s.2.2.2.2 (15 * s.1 2 + 5 * s.1 4 + 1))
              unfold zVp; omega
            · split at e
              · cases e
                show zVp (s.1 2) (s.1 3 + 1) (s.1 4) (s.1 5) 0 c (s.1 8) (s.1 9 + -1) (s.2.2.2.2 (15 * s.1 2 + 5 * s.1 4 + 1))
                unfold zVp; omega
              · cases e
    · rename_i h6
      unfold zOp1 at e
      split at e
      · split at e
        · cases e
          show zVp (s.1 2) (s.1 3 + 1) (s.1 4) (s.1 5) 0 (s.1 7) (s.1 8 + (c - 48)) (s.1 9) (s.2.2.2.2 (15 * s.1 2 + 5 * s.1 4 + 1))
          unfold zVp; omega
        · cases e
      · split at e
        · split at e
          · split at e
            · cases e
              show zVp (s.1 2) (s.1 3) (s.1 4) (s.1 5) 2 (s.1 7) (s.1 8) (s.1 9) (s.2.2.2.2 (15 * s.1 2 + 5 * s.1 4 + 1))
              unfold zVp; omega
            · cases e
              show zVp (s.1 2) (s.1 3 + 1) (s.1 4) (s.1 5) 0 (s.1 7) (s.1 8) (s.1 9) (s.2.2.2.2 (15 * s.1 2 + 5 * s.1 4 + 1))
              unfold zVp; omega
          · cases e
        · split at e
          · cases e
            show zVp (s.1 2) (s.1 3 + 1) (s.1 4) (s.1 5) 0 (s.1 7) (s.1 8) (s.1 9) (s.2.2.2.2 (15 * s.1 2 + 5 * s.1 4 + 1))
            unfold zVp; omega
          · cases e
  · rename_i h5
    split at e
    · rename_i h6
      unfold zPd0 at e
      split at e
      · cases e
        show zVp (s.1 2 + 1) 0 0 0 0 (s.1 7) 0 0 (s.2.2.2.2 (15 * (s.1 2 + 1) + 5 * 0 + 1))
        unfold zVp; omega
      · split at e
        · cases e
        · split at e
          · cases e
          · cases e
            show zVp (s.1 2) (s.1 3) (s.1 4) (s.1 5) 1 (s.1 7) (s.1 8) (s.1 9) (ui s.2.2.2.2 (15 * s.1 2 + 5 * s.1 4) (zKind c) (15 * s.1 2 + 5 * s.1 4 + 1))
            unfold zVp; omega
    · rename_i h6
      unfold zPd1 at e
      split at e
      · rename_i hd
        split at e
        · cases e
          show zVp (s.1 2) (s.1 3) (s.1 4 + 1) (s.1 5) 0 (s.1 7) (s.1 8) (s.1 9) (ui s.2.2.2.2 (15 * s.1 2 + 5 * s.1 4 + 4) (c - 48) (15 * s.1 2 + 5 * (s.1 4 + 1) + 1))
          unfold zVp; omega
        · cases e
          show zVp (s.1 2) (s.1 3) (s.1 4) (s.1 5) (s.1 6 + 1) (s.1 7) (s.1 8) (s.1 9) (ui s.2.2.2.2 (15 * s.1 2 + 5 * s.1 4 + s.1 6) (c - 48) (15 * s.1 2 + 5 * s.1 4 + 1))
          have hq : s.1 6 = 1 → ui s.2.2.2.2 (15 * s.1 2 + 5 * s.1 4 + s.1 6) (c - 48) (15 * s.1 2 + 5 * s.1 4 + 1) = c - 48 := fun h1 => by rw [h1, ui_s]
          unfold zVp; omega
      · cases e
section RL
variable {S : (Nat → Int32) × Nat} {t : qT} {D : qD} {Q : Int → qT → qD → Prop}
theorem SQ.trans {D E F : qD} (h : SQ D E) (k : SQ E F) : SQ D F := by
  obtain ⟨h0, h1, h2, h3, h4, h5, h6, h7, h8⟩ := h
  obtain ⟨k0, k1, k2, k3, k4, k5, k6, k7, k8⟩ := k
  exact ⟨fun a g1 g2 g3 g4 g5 g6 g7 => (k0 a g1 g2 g3 g4 g5 g6 g7).trans (h0 a g1 g2 g3 g4 g5 g6 g7), k1.trans h1, k2.trans h2, k3.trans h3, k4.trans h4, k5.trans h5, k6.trans h6, k7.trans h7, k8.trans h8⟩
theorem zV_0 (D : qD) : zV (z0 D) := by
  show zVp 0 0 0 0 0 (D 28 7) 0 0 (D 33 (15 * 0 + 5 * 0 + 1))
  unfold zVp; omega
/-! ### the class's reader -/
def ZR (F : Int → Int) (s : zS) : Prop :=
  F 1 = s.1 2 + 1 ∧ F 3 = s.1 8 ∧ F 4 = s.1 9 ∧ (s.1 5 = 0 → s.1 6 = 0 → F 0 = 0 ∧ F 2 = s.1 3) ∧ (s.1 5 = 0 → ¬ s.1 6 = 0 → F 2 = s.1 3 + 1 ∧ (s.1 7 = 43 → F 0 = 1) ∧ (s.1 7 = 115 → s.1 6 = 1 → F 0 = 2) ∧ (s.1 7 = 115 → s.1 6 = 2 → F 0 = 3) ∧ (s.1 7 = 117 → F 0 = 4)) ∧
  (s.1 5 = 0 → F 5 = s.1 4) ∧ (s.1 5 = 1 → F 0 = 5 + s.1 6) ∧ (s.1 5 = 1 → s.1 6 = 0 → F 5 = s.1 4) ∧ (s.1 5 = 1 → ¬ s.1 6 = 0 → F 5 = s.1 4 + 1) ∧
  (s.1 5 = 1 → s.1 6 = 2 → F 6 = s.2.2.2.2 (15 * s.1 2 + 5 * s.1 4 + 1))
theorem c41 {i : Int} (hi : 0 ≤ i ∧ i < D 1 1) (hl : D 1 1 ≤ 100) (k : Q (D 2 i) t D) : wp S 39 0 [some (qs 1), some (qi i)] [] t D Q := by
  refine b41_0 (c102 (by omega) (by omega) ?_)
  rw [if_pos hi]
  exact chk_i (by omega) (ite_i (fun h => absurd h (by decide)) fun _ => chk_i (by omega) k)
theorem c104 {c : Int} (hc : qR c) (k : Q (zKind c) t D) : wp S 90 0 [some (qi c)] [] t D Q := by
  unfold zKind at k
  refine b104_0 (chk_i hc (ite_i (fun c1 => ?_) fun c1 => ite_i (fun c2 => ?_) fun c2 => ite_i (fun c3 => ?_) fun c3 => ite_i (fun c4 => ?_) fun c4 => ite_i (fun c5 => ?_) fun c5 => ?_))
  · rwa [if_pos c1] at k
  · rwa [if_neg c1, if_pos c2] at k
  · rwa [if_neg c1, if_neg c2, if_pos c3] at k
  · rwa [if_neg c1, if_neg c2, if_neg c3, if_pos c4] at k
  · rwa [if_neg c1, if_neg c2, if_neg c3, if_neg c4, if_pos c5] at k
  · rwa [if_neg c1, if_neg c2, if_neg c3, if_neg c4, if_neg c5] at k
theorem c50 {a : Nat} {c lo hi nx : Int} (hT : (t.1 a).1 = 5) (hc : 1 ≤ c ∧ c ≤ 126) (hlo : 0 ≤ lo ∧ lo ≤ 9) (hhi : 0 ≤ hi ∧ hi ≤ 9) (k1 : lo ≤ c - 48 → c - 48 ≤ hi → Q 1 t (up D a 0 nx)) (k0 : ¬ (lo ≤ c - 48 ∧ c - 48 ≤ hi) → Q 0 t (up D a 0 nx)) :
    wp S 48 0 [some (qr a), some (qi c), some (qi lo), some (qi hi), some (qi nx), none] [] t D Q :=
  b50_0 (chk_i hT (chk_i (by omega) (chk_i (by omega) (ite_i (fun h => k0 (by omega)) fun h => chk_i (by omega) (chk_i (by omega) (ite_i (fun h2 => k0 (by omega)) fun h2 => k1 (by omega) (by omega)))))))
theorem up_ne {D : qD} {a b : Nat} {i x : Int} (h : b ≠ a) : up D a i x b = D b := by rw [up_eq]; exact upr_n h
theorem up_at (D : qD) (a : Nat) (i x : Int) : up D a i x a = ui (D a) i x := by rw [up_eq]; exact upr_s
def ZRp (F0 F1 F2 F3 F4 F5 F6 m o p i l op ad ly q : Int) : Prop :=
  F1 = m + 1 ∧ F3 = ad ∧ F4 = ly ∧ (i = 0 → l = 0 → F0 = 0 ∧ F2 = o) ∧ (i = 0 → ¬ l = 0 → F2 = o + 1 ∧ (op = 43 → F0 = 1) ∧ (op = 115 → l = 1 → F0 = 2) ∧ (op = 115 → l = 2 → F0 = 3) ∧ (op = 117 → F0 = 4)) ∧
  (i = 0 → F5 = p) ∧ (i = 1 → F0 = 5 + l) ∧ (i = 1 → l = 0 → F5 = p) ∧ (i = 1 → ¬ l = 0 → F5 = p + 1) ∧ (i = 1 → l = 2 → F6 = q)
theorem ZRp_of {F : Int → Int} {s : zS} (h : ZR F s) : ZRp (F 0) (F 1) (F 2) (F 3) (F 4) (F 5) (F 6) (s.1 2) (s.1 3) (s.1 4) (s.1 5) (s.1 6) (s.1 7) (s.1 8) (s.1 9) (s.2.2.2.2 (15 * s.1 2 + 5 * s.1 4 + 1)) := h
theorem c47 {a : Nat} {c : Int} {s : zS} (hT : (t.1 a).1 = 5) (hc : 1 ≤ c ∧ c ≤ 126) (hz : zV s) (hr : ZR (D a) s) (h5 : s.1 5 = 0) (h6 : s.1 6 = 0)
    (k1 : ∀ D' s', zStep s c = some s' → ZR (D' a) s' → (∀ b, b ≠ a → D' b = D b) → Q 1 t D') (k0 : ∀ D', zStep s c = none → (∀ b, b ≠ a → D' b = D b) → Q 0 t D') : wp S 45 0 [some (qr a), some (qi c)] [] t D Q := by
  obtain ⟨a1, a2, a3, a4, a5, a6, -, -, -⟩ := hz
  obtain ⟨r1, r2, r3, r4, -, r6, -, -, -, -⟩ := hr
  have r4 := r4 h5 h6
  have r6 := r6 h5
  have e : zStep s c = zOp0 s c := by unfold zStep; rw [if_pos h5, if_pos h6]
  rw [e] at k1 k0
  unfold zOp0 at k1 k0
  have n0 : ∀ {i x : Int}, ∀ b, b ≠ a → up D a i x b = D b := fun b hb => up_ne hb
  have n1 : ∀ {i x j y : Int}, ∀ b, b ≠ a → up (up D a i x) a j y b = D b := fun b hb => by rw [up_ne hb, up_ne hb]
  refine b47_0 (chk_i (by omega) (ite_i (fun h => chk_i hT ?_) fun h => chk_i hT (chk_i hT (chk_i hT ?_))))
  · rw [if_pos h] at k1
    refine k1 _ _ rfl ?_ n0
    rw [up_at]
    show ZRp 5 (D a 1) (D a 2) (D a 3) (D a 4) (D a 5) (D a 6) (s.1 2) (s.1 3) (s.1 4) 1 (s.1 6) (s.1 7) (s.1 8) (s.1 9) (s.2.2.2.2 (15 * s.1 2 + 5 * s.1 4 + 1))
    unfold ZRp; omega
  · rw [if_neg h] at k1 k0
    have e2 : up D a 2 (D a 2 + 1) a 2 = s.1 3 + 1 := by rw [up_at, ui_s]; omega
    rw [e2]
    refine chk_i (by omega) (ite_i (fun h8 => ?_) fun h8 => chk_i hT ?_)
    · rw [if_pos (by omega)] at k0
      exact k0 _ rfl n0
    · rw [if_neg (by omega)] at k1 k0
      have e4 : up D a 2 (D a 2 + 1) a 4 = s.1 9 := by rw [up_at, ui_n (by decide)]; omega
      refine b48_0 (chk_i (by omega) (ite_i (fun h1 => chk_i hT ?_) fun h1 => ite_i (fun h2 => ?_) fun h2 => ite_i (fun h3 => ?_) fun h3 => ite_i (fun h4 => chk_i hT ?_) fun h4 => ite_i (fun h5' => chk_i hT ?_) fun h5' => ?_))
      · rw [if_pos (by omega)] at k1
        refine chk_i (by omega) (ite_i (fun h => absurd h (by decide)) fun _ => k1 _ _ rfl ?_ n1)
        rw [up_at, up_at]
        show ZRp 1 (D a 1) (D a 2 + 1) (D a 3) (D a 4) (D a 5) (D a 6) (s.1 2) (s.1 3) (s.1 4) (s.1 5) 1 c (s.1 8) (s.1 9) (s.2.2.2.2 (15 * s.1 2 + 5 * s.1 4 + 1))
        unfold ZRp; omega
      · rw [if_neg (by omega), if_neg (by omega)] at k1 k0
        rw [e4]
        refine chk_i hT (chk_i hT (chk_i hT ?_))
        have e5 : up (up D a 2 (D a 2 + 1)) a 4 (s.1 9 - 1) a 4 = s.1 9 - 1 := by rw [up_at, ui_s]
        rw [e5]
        refine chk_i (by omega) (ite_i (fun h9 => ?_) fun h9 => ?_)
        · rw [if_neg (by omega)] at k0
          exact chk_i (by omega) (ite_i (fun _ => k0 _ rfl n1) fun h => absurd rfl h)
        · rw [if_pos (by omega)] at k1
          refine chk_i (by omega) (ite_i (fun h => absurd h (by decide)) fun _ => k1 _ _ rfl ?_ n1)
          rw [up_at, up_at]
          show ZRp (D a 0) (D a 1) (D a 2 + 1) (D a 3) (s.1 9 - 1) (D a 5) (D a 6) (s.1 2) (s.1 3 + 1) (s.1 4) (s.1 5) 0 c (s.1 8) (s.1 9 + -1) (s.2.2.2.2 (15 * s.1 2 + 5 * s.1 4 + 1))
          unfold ZRp; omega
      · rw [if_neg (by omega)] at k1 k0
        rw [e4]
        refine chk_i hT (chk_i hT (chk_i hT ?_))
        have e5 : up (up D a 2 (D a 2 + 1)) a 4 (s.1 9 + 1) a 4 = s.1 9 + 1 := by rw [up_at, ui_s]
        rw [e5]
        refine chk_i (by omega) (ite_i (fun h9 => ?_) fun h9 => ?_)
        · rw [if_neg (by omega), if_neg (by omega)] at k0
          exact chk_i (by omega) (ite_i (fun _ => k0 _ rfl n1) fun h => absurd rfl h)
        · rw [if_pos (by omega)] at k1
          refine chk_i (by omega) (ite_i (fun h => absurd h (by decide)) fun _ => k1 _ _ rfl ?_ n1)
          rw [up_at, up_at]
          show ZRp (D a 0) (D a 1) (D a 2 + 1) (D a 3) (s.1 9 + 1) (D a 5) (D a 6) (s.1 2) (s.1 3 + 1) (s.1 4) (s.1 5) 0 c (s.1 8) (s.1 9 + 1) (s.2.2.2.2 (15 * s.1 2 + 5 * s.1 4 + 1))
          unfold ZRp; omega
      · rw [if_pos (by omega)] at k1
        refine chk_i (by omega) (ite_i (fun h => absurd h (by decide)) fun _ => k1 _ _ rfl ?_ n1)
        rw [up_at, up_at]
        show ZRp 2 (D a 1) (D a 2 + 1) (D a 3) (D a 4) (D a 5) (D a 6) (s.1 2) (s.1 3) (s.1 4) (s.1 5) 1 c (s.1 8) (s.1 9) (s.2.2.2.2 (15 * s.1 2 + 5 * s.1 4 + 1))
        unfold ZRp; omega
      · rw [if_pos (by omega)] at k1
        refine chk_i (by omega) (ite_i (fun h => absurd h (by decide)) fun _ => k1 _ _ rfl ?_ n1)
        rw [up_at, up_at]
        show ZRp 4 (D a 1) (D a 2 + 1) (D a 3) (D a 4) (D a 5) (D a 6) (s.1 2) (s.1 3) (s.1 4) (s.1 5) 1 c (s.1 8) (s.1 9) (s.2.2.2.2 (15 * s.1 2 + 5 * s.1 4 + 1))
        unfold ZRp; omega
      · rw [if_neg (by omega), if_neg (by omega), if_neg (by omega)] at k0
        exact chk_i (by omega) (ite_i (fun _ => k0 _ rfl n0) fun h => absurd rfl h)
theorem t46 {a : Nat} {c : Int} (hT : (t.1 a).1 = 5) :
    (D a 0 = 1 → wp S 47 0 [some (qr a), some (qi (c - 48))] [] t D (fun x t' D' => chk (x = 0 ∨ x = 1) (Q x t' D')) → wp S 44 0 [some (qr a), some (qi c)] [] t D Q) ∧
    (D a 0 = 2 → wp S 48 0 [some (qr a), some (qi c), some (qi 0), some (qi 3), some (qi 3), none] [] t D (fun x t' D' => chk (x = 0 ∨ x = 1) (Q x t' D')) → wp S 44 0 [some (qr a), some (qi c)] [] t D Q) ∧
    (D a 0 = 3 → wp S 48 0 [some (qr a), some (qi c), some (qi 0), some (qi 5), some (qi 0), none] [] t D (fun x t' D' => chk (x = 0 ∨ x = 1) (Q x t' D')) → wp S 44 0 [some (qr a), some (qi c)] [] t D Q) ∧
    (D a 0 = 4 → wp S 48 0 [some (qr a), some (qi c), some (qi 0), some (qi 3), some (qi 0), none] [] t D (fun x t' D' => chk (x = 0 ∨ x = 1) (Q x t' D')) → wp S 44 0 [some (qr a), some (qi c)] [] t D Q) ∧
    (D a 0 = 5 → wp S 49 0 [some (qr a), some (qi c)] [] t D (fun x t' D' => chk (x = 0 ∨ x = 1) (Q x t' D')) → wp S 44 0 [some (qr a), some (qi c)] [] t D Q) ∧
    (D a 0 = 6 → wp S 48 0 [some (qr a), some (qi c), some (qi 0), some (qi 9), some (qi 7), none] [] t (up D a 6 (c - 48)) (fun x t' D' => chk (x = 0 ∨ x = 1) (Q x t' D')) → wp S 44 0 [some (qr a), some (qi c)] [] t D Q) ∧
    (D a 0 = 7 → wp S 48 0 [some (qr a), some (qi c), some (qi (D a 6)), some (qi 9), some (qi 8), none] [] t D (fun x t' D' => chk (x = 0 ∨ x = 1) (Q x t' D')) → wp S 44 0 [some (qr a), some (qi c)] [] t D Q) ∧
    (D a 0 = 8 → wp S 48 0 [some (qr a), some (qi c), some (qi 0), some (qi 4), some (qi 9), none] [] t D (fun x t' D' => chk (x = 0 ∨ x = 1) (Q x t' D')) → wp S 44 0 [some (qr a), some (qi c)] [] t D Q) ∧
    (D a 0 = 9 → wp S 48 0 [some (qr a), some (qi c), some (qi 0), some (qi 9), some (qi 5), none] [] t D (fun x t' D' => chk (x = 0 ∨ x = 1) (Q x t' D')) → wp S 44 0 [some (qr a), some (qi c)] [] t D Q) := by
  refine ⟨fun h k => ?_, fun h k => ?_, fun h k => ?_, fun h k => ?_, fun h k => ?_, fun h k => ?_, fun h k => ?_, fun h k => ?_, fun h k => ?_⟩
  all_goals
    refine b46_0 (chk_i hT (chk_i (by omega) ?_))
    rw [h]
  · rw [if_neg (by decide), if_pos rfl]; exact chk_i hT k
  · rw [if_neg (by decide), if_neg (by decide), if_pos rfl]; exact chk_i hT k
  · rw [if_neg (by decide), if_neg (by decide), if_neg (by decide), if_pos rfl]; exact chk_i hT k
  · rw [if_neg (by decide), if_neg (by decide), if_neg (by decide), if_neg (by decide), if_pos rfl]; exact chk_i hT k
  · rw [if_neg (by decide), if_neg (by decide), if_neg (by decide), if_neg (by decide), if_neg (by decide), if_pos rfl]; exact chk_i hT k
  · rw [if_neg (by decide), if_neg (by decide), if_neg (by decide), if_neg (by decide), if_neg (by decide), if_neg (by decide), if_pos rfl]; exact chk_i hT (chk_i hT k)
  · rw [if_neg (by decide), if_neg (by decide), if_neg (by decide), if_neg (by decide), if_neg (by decide), if_neg (by decide), if_neg (by decide), if_pos rfl]; exact chk_i hT (chk_i hT k)
  · rw [if_neg (by decide), if_neg (by decide), if_neg (by decide), if_neg (by decide), if_neg (by decide), if_neg (by decide), if_neg (by decide), if_neg (by decide), if_pos rfl]; exact chk_i hT k
  · rw [if_neg (by decide), if_neg (by decide), if_neg (by decide), if_neg (by decide), if_neg (by decide), if_neg (by decide), if_neg (by decide), if_neg (by decide), if_neg (by decide)]; exact chk_i hT k
theorem c46_43 {a : Nat} {c : Int} {s : zS} (hT : (t.1 a).1 = 5) (hc : 1 ≤ c ∧ c ≤ 126) (h5 : s.1 5 = 0) (h6 : s.1 6 = 1) (h7 : s.1 7 = 43) (ha : 0 ≤ s.1 8 ∧ s.1 8 ≤ 9) (f0 : D a 0 = 1) (f1 : D a 1 = s.1 2 + 1) (f2 : D a 2 = s.1 3 + 1) (f3 : D a 3 = s.1 8) (f4 : D a 4 = s.1 9) (f5 : D a 5 = s.1 4)
    (r1 : ∀ D' s', zOp1 s c = some s' → ZR (D' a) s' → (∀ b, b ≠ a → D' b = D b) → chk ((1 : Int) = 0 ∨ (1 : Int) = 1) (Q 1 t D')) (r0 : ∀ D', zOp1 s c = none → (∀ b, b ≠ a → D' b = D b) → chk ((0 : Int) = 0 ∨ (0 : Int) = 1) (Q 0 t D')) : wp S 44 0 [some (qr a), some (qi c)] [] t D Q := by
  unfold zOp1 at r1 r0
  rw [if_pos h7] at r1 r0
  refine t46 (Q := Q) (S := S) hT |>.1 f0 (b49_0 (chk_i (by omega) (ite_i (fun g => ?_) fun g => chk_i hT (chk_i (by omega) (ite_i (fun g2 => chk_i hT (chk_i hT (chk_i hT ?_))) fun g2 => ?_)))))
  · rw [if_neg (by omega)] at r0
    exact r0 _ rfl fun _ _ => rfl
  · rw [if_pos (by omega)] at r1
    refine r1 _ _ rfl ?_ fun b hb => by rw [up_ne hb, up_ne hb]
    rw [up_at, up_at]
    show ZRp 0 (D a 1) (D a 2) (D a 3 + (c - 48)) (D a 4) (D a 5) (D a 6) (s.1 2) (s.1 3 + 1) (s.1 4) (s.1 5) 0 (s.1 7) (s.1 8 + (c - 48)) (s.1 9) (s.2.2.2.2 (15 * s.1 2 + 5 * s.1 4 + 1))
    unfold ZRp; omega
  · rw [if_neg (by omega)] at r0
    exact r0 _ rfl fun _ _ => rfl
theorem c46_dig {a : Nat} {c : Int} {s : zS} (hT : (t.1 a).1 = 5) (hc : 1 ≤ c ∧ c ≤ 126) (h5 : s.1 5 = 0) (h6 : (s.1 7 = 117 ∧ s.1 6 = 1 ∧ D a 0 = 4) ∨ (s.1 7 = 115 ∧ s.1 6 = 1 ∧ D a 0 = 2) ∨ (s.1 7 = 115 ∧ s.1 6 = 2 ∧ D a 0 = 3)) (f1 : D a 1 = s.1 2 + 1) (f2 : D a 2 = s.1 3 + 1) (f3 : D a 3 = s.1 8) (f4 : D a 4 = s.1 9) (f5 : D a 5 = s.1 4)
    (r1 : ∀ D' s', zOp1 s c = some s' → ZR (D' a) s' → (∀ b, b ≠ a → D' b = D b) → chk ((1 : Int) = 0 ∨ (1 : Int) = 1) (Q 1 t D')) (r0 : ∀ D', zOp1 s c = none → (∀ b, b ≠ a → D' b = D b) → chk ((0 : Int) = 0 ∨ (0 : Int) = 1) (Q 0 t D')) : wp S 44 0 [some (qr a), some (qi c)] [] t D Q := by
  unfold zOp1 at r1 r0
  rcases h6 with ⟨g7, g6, f0⟩ | ⟨g7, g6, f0⟩ | ⟨g7, g6, f0⟩
  · rw [if_neg (by omega), if_pos g6] at r1 r0
    refine (t46 (Q := Q) (S := S) hT).2.2.2.1 f0 (c50 hT hc (by omega) (by omega) (fun g1 g2 => ?_) fun g => ?_)
    · rw [if_pos (by omega), if_neg (by omega)] at r1
      refine r1 _ _ rfl ?_ fun b hb => up_ne hb
      rw [up_at]
      show ZRp 0 (D a 1) (D a 2) (D a 3) (D a 4) (D a 5) (D a 6) (s.1 2) (s.1 3 + 1) (s.1 4) (s.1 5) 0 (s.1 7) (s.1 8) (s.1 9) (s.2.2.2.2 (15 * s.1 2 + 5 * s.1 4 + 1))
      unfold ZRp; omega
    · rw [if_neg (by omega)] at r0
      exact r0 _ rfl fun b hb => up_ne hb
  · rw [if_neg (by omega), if_pos g6] at r1 r0
    refine (t46 (Q := Q) (S := S) hT).2.1 f0 (c50 hT hc (by omega) (by omega) (fun g1 g2 => ?_) fun g => ?_)
    · rw [if_pos (by omega), if_pos g7] at r1
      refine r1 _ _ rfl ?_ fun b hb => up_ne hb
      rw [up_at]
      show ZRp 3 (D a 1) (D a 2) (D a 3) (D a 4) (D a 5) (D a 6) (s.1 2) (s.1 3) (s.1 4) (s.1 5) 2 (s.1 7) (s.1 8) (s.1 9) (s.2.2.2.2 (15 * s.1 2 + 5 * s.1 4 + 1))
      unfold ZRp; omega
    · rw [if_neg (by omega)] at r0
      exact r0 _ rfl fun b hb => up_ne hb
  · rw [if_neg (by omega), if_neg (by omega)] at r1 r0
    refine (t46 (Q := Q) (S := S) hT).2.2.1 f0 (c50 hT hc (by omega) (by omega) (fun g1 g2 => ?_) fun g => ?_)
    · rw [if_pos (by omega)] at r1
      refine r1 _ _ rfl ?_ fun b hb => up_ne hb
      rw [up_at]
      show ZRp 0 (D a 1) (D a 2) (D a 3) (D a 4) (D a 5) (D a 6) (s.1 2) (s.1 3 + 1) (s.1 4) (s.1 5) 0 (s.1 7) (s.1 8) (s.1 9) (s.2.2.2.2 (15 * s.1 2 + 5 * s.1 4 + 1))
      unfold ZRp; omega
    · rw [if_neg (by omega)] at r0
      exact r0 _ rfl fun b hb => up_ne hb
theorem c46_p0 {a : Nat} {c : Int} {s : zS} (hT : (t.1 a).1 = 5) (hc : 1 ≤ c ∧ c ≤ 126) (h5 : s.1 5 = 1) (h6 : s.1 6 = 0) (hm : 0 ≤ s.1 2 ∧ s.1 2 ≤ 2) (hp : 0 ≤ s.1 4 ∧ s.1 4 ≤ 3) (f0 : D a 0 = 5) (f1 : D a 1 = s.1 2 + 1) (f3 : D a 3 = s.1 8) (f4 : D a 4 = s.1 9) (f5 : D a 5 = s.1 4)
    (r1 : ∀ D' s', zPd0 s c = some s' → ZR (D' a) s' → (∀ b, b ≠ a → D' b = D b) → chk ((1 : Int) = 0 ∨ (1 : Int) = 1) (Q 1 t D')) (r0 : ∀ D', zPd0 s c = none → (∀ b, b ≠ a → D' b = D b) → chk ((0 : Int) = 0 ∨ (0 : Int) = 1) (Q 0 t D')) : wp S 44 0 [some (qr a), some (qi c)] [] t D Q := by
  have hk := zKind_r c
  unfold zPd0 at r1 r0
  have n1 : ∀ {i x j y : Int}, ∀ b, b ≠ a → up (up D a i x) a j y b = D b := fun b hb => by rw [up_ne hb, up_ne hb]
  refine (t46 (Q := Q) (S := S) hT).2.2.2.2.1 f0 (b51_0 (chk_i (by omega) (ite_i (fun g => chk_i hT ?_) fun g => chk_i hT (chk_i hT (chk_i hT (chk_i hT ?_))))))
  · refine b52_0 (chk_i hT (chk_i hT (chk_i hT (chk_i hT (chk_i hT (chk_i hT (chk_i hT (chk_i hT ?_))))))))
    have nb : ∀ b, b ≠ a → up (up (up (up (up (up D a 1 (D a 1 + 1)) a 0 0) a 2 0) a 3 0) a 4 0) a 5 0 b = D b := fun b hb => by rw [up_ne hb, up_ne hb, up_ne hb, up_ne hb, up_ne hb, up_ne hb]
    have e1 : up (up (up (up (up (up D a 1 (D a 1 + 1)) a 0 0) a 2 0) a 3 0) a 4 0) a 5 0 a 1 = s.1 2 + 2 := by
      rw [up_at, up_at, up_at, up_at, up_at, up_at, ui_n (by decide), ui_n (by decide), ui_n (by decide), ui_n (by decide), ui_n (by decide), ui_s]; omega
    rw [e1]
    refine chk_i (by omega) (ite_i (fun g2 => ?_) fun g2 => ?_)
    · rw [if_neg (by omega), if_pos (by rw [g]; rfl)] at r0
      exact r0 _ rfl nb
    · rw [if_pos (by omega)] at r1
      refine r1 _ _ rfl ?_ nb
      rw [up_at, up_at, up_at, up_at, up_at, up_at]
      show ZRp 0 (D a 1 + 1) 0 0 0 0 (D a 6) (s.1 2 + 1) 0 0 0 0 (s.1 7) 0 0 (s.2.2.2.2 (15 * (s.1 2 + 1) + 5 * 0 + 1))
      unfold ZRp; omega
  · rw [if_neg (by omega)] at r1 r0
    have e5 : up (up D a 5 (D a 5 + 1)) a 0 6 a 5 = s.1 4 + 1 := by rw [up_at, up_at, ui_n (by decide), ui_s]; omega
    rw [e5]
    refine chk_i (by omega) (ite_i (fun g2 => ?_) fun g2 => c104 (by omega) (chk_i (by omega) (ite_i (fun g3 => ?_) fun g3 => ?_)))
    · by_cases g4 : zKind c = -1
      · rw [if_pos g4] at r0; exact r0 _ rfl n1
      · rw [if_neg g4, if_pos (by omega)] at r0; exact r0 _ rfl n1
    · rw [if_pos g3] at r0; exact r0 _ rfl n1
    · rw [if_neg g3, if_neg (by omega)] at r1
      refine r1 _ _ rfl ?_ n1
      rw [up_at, up_at]
      show ZRp 6 (D a 1) (D a 2) (D a 3) (D a 4) (D a 5 + 1) (D a 6) (s.1 2) (s.1 3) (s.1 4) (s.1 5) 1 (s.1 7) (s.1 8) (s.1 9) (ui s.2.2.2.2 (15 * s.1 2 + 5 * s.1 4) (zKind c) (15 * s.1 2 + 5 * s.1 4 + 1))
      unfold ZRp; omega
theorem c46_p1 {a : Nat} {c : Int} {s : zS} (hT : (t.1 a).1 = 5) (hc : 1 ≤ c ∧ c ≤ 126) (h5 : s.1 5 = 1) (h6 : s.1 6 = 1 ∨ s.1 6 = 2 ∨ s.1 6 = 3 ∨ s.1 6 = 4) (h2 : s.1 6 = 2 → D a 6 = (s.2.2.2.2 (15 * s.1 2 + 5 * s.1 4 + 1)) ∧ 0 ≤ (s.2.2.2.2 (15 * s.1 2 + 5 * s.1 4 + 1)) ∧ (s.2.2.2.2 (15 * s.1 2 + 5 * s.1 4 + 1)) ≤ 9) (f0 : D a 0 = 5 + s.1 6) (f1 : D a 1 = s.1 2 + 1) (f3 : D a 3 = s.1 8) (f4 : D a 4 = s.1 9) (f5 : D a 5 = s.1 4 + 1)
    (r1 : ∀ D' s', zPd1 s c = some s' → ZR (D' a) s' → (∀ b, b ≠ a → D' b = D b) → chk ((1 : Int) = 0 ∨ (1 : Int) = 1) (Q 1 t D')) (r0 : ∀ D', zPd1 s c = none → (∀ b, b ≠ a → D' b = D b) → chk ((0 : Int) = 0 ∨ (0 : Int) = 1) (Q 0 t D')) : wp S 44 0 [some (qr a), some (qi c)] [] t D Q := by
  unfold zPd1 at r1 r0
  rcases h6 with hl | hl | hl | hl
  · rw [hl] at r1 r0
    refine (t46 (Q := Q) (S := S) hT).2.2.2.2.2.1 (by omega) (c50 hT hc (by omega) (by omega) (fun g1 g2 => ?_) fun g => ?_)
    · rw [if_pos (by omega), if_neg (by decide)] at r1
      refine r1 _ _ rfl ?_ fun b hb => by rw [up_ne hb, up_ne hb]
      rw [up_at, up_at]
      show ZRp 7 (D a 1) (D a 2) (D a 3) (D a 4) (D a 5) (c - 48) (s.1 2) (s.1 3) (s.1 4) (s.1 5) 2 (s.1 7) (s.1 8) (s.1 9) (ui s.2.2.2.2 (15 * s.1 2 + 5 * s.1 4 + 1) (c - 48) (15 * s.1 2 + 5 * s.1 4 + 1))
      rw [ui_s]
      unfold ZRp; omega
    · rw [if_neg (by omega)] at r0
      exact r0 _ rfl fun b hb => by rw [up_ne hb, up_ne hb]
  · have h2 := h2 hl
    rw [hl] at r1 r0
    refine (t46 (Q := Q) (S := S) hT).2.2.2.2.2.2.1 (by omega) (c50 hT hc (by omega) (by omega) (fun g1 g2 => ?_) fun g => ?_)
    · rw [if_pos (by omega), if_neg (by decide)] at r1
      refine r1 _ _ rfl ?_ fun b hb => up_ne hb
      rw [up_at]
      show ZRp 8 (D a 1) (D a 2) (D a 3) (D a 4) (D a 5) (D a 6) (s.1 2) (s.1 3) (s.1 4) (s.1 5) 3 (s.1 7) (s.1 8) (s.1 9) (ui s.2.2.2.2 (15 * s.1 2 + 5 * s.1 4 + 2) (c - 48) (15 * s.1 2 + 5 * s.1 4 + 1))
      unfold ZRp; omega
    · rw [if_neg (by omega)] at r0
      exact r0 _ rfl fun b hb => up_ne hb
  · rw [hl] at r1 r0
    refine (t46 (Q := Q) (S := S) hT).2.2.2.2.2.2.2.1 (by omega) (c50 hT hc (by omega) (by omega) (fun g1 g2 => ?_) fun g => ?_)
    · rw [if_pos (by omega), if_neg (by decide)] at r1
      refine r1 _ _ rfl ?_ fun b hb => up_ne hb
      rw [up_at]
      show ZRp 9 (D a 1) (D a 2) (D a 3) (D a 4) (D a 5) (D a 6) (s.1 2) (s.1 3) (s.1 4) (s.1 5) 4 (s.1 7) (s.1 8) (s.1 9) (ui s.2.2.2.2 (15 * s.1 2 + 5 * s.1 4 + 3) (c - 48) (15 * s.1 2 + 5 * s.1 4 + 1))
      unfold ZRp; omega
    · rw [if_neg (by omega)] at r0
      exact r0 _ rfl fun b hb => up_ne hb
  · rw [hl] at r1 r0
    refine (t46 (Q := Q) (S := S) hT).2.2.2.2.2.2.2.2 (by omega) (c50 hT hc (by omega) (by omega) (fun g1 g2 => ?_) fun g => ?_)
    · rw [if_pos (by omega), if_pos rfl] at r1
      refine r1 _ _ rfl ?_ fun b hb => up_ne hb
      rw [up_at]
      show ZRp 5 (D a 1) (D a 2) (D a 3) (D a 4) (D a 5) (D a 6) (s.1 2) (s.1 3) (s.1 4 + 1) (s.1 5) 0 (s.1 7) (s.1 8) (s.1 9) (ui s.2.2.2.2 (15 * s.1 2 + 5 * s.1 4 + 4) (c - 48) (15 * s.1 2 + 5 * (s.1 4 + 1) + 1))
      unfold ZRp; omega
    · rw [if_neg (by omega)] at r0
      exact r0 _ rfl fun b hb => up_ne hb
theorem c46 {a : Nat} {c : Int} {s : zS} (hT : (t.1 a).1 = 5) (hc : 1 ≤ c ∧ c ≤ 126) (hz0 : zV s) (hr0 : ZR (D a) s)
    (k1 : ∀ D' s', zStep s c = some s' → ZR (D' a) s' → (∀ b, b ≠ a → D' b = D b) → Q 1 t D') (k0 : ∀ D', zStep s c = none → (∀ b, b ≠ a → D' b = D b) → Q 0 t D') : wp S 44 0 [some (qr a), some (qi c)] [] t D Q := by
  obtain ⟨a1, a2, a3, a4, a5, a6, a7, a8, a9⟩ := id hz0
  obtain ⟨r1', r2', r3', r4', r5', r6', r7', r8', r9', r10'⟩ := id hr0
  have r1 : ∀ D' s', zStep s c = some s' → ZR (D' a) s' → (∀ b, b ≠ a → D' b = D b) → chk ((1 : Int) = 0 ∨ (1 : Int) = 1) (Q 1 t D') := fun D' s' h1 h2 h3 => chk_i (.inr rfl) (k1 D' s' h1 h2 h3)
  have r0 : ∀ D', zStep s c = none → (∀ b, b ≠ a → D' b = D b) → chk ((0 : Int) = 0 ∨ (0 : Int) = 1) (Q 0 t D') := fun D' h1 h3 => chk_i (.inl rfl) (k0 D' h1 h3)
  unfold zStep at r1 r0
  by_cases h5 : s.1 5 = 0
  · rw [if_pos h5] at r1 r0
    by_cases h6 : s.1 6 = 0
    · have f0 := (r4' h5 h6).1
      have e : zStep s c = zOp0 s c := by unfold zStep; rw [if_pos h5, if_pos h6]
      rw [if_pos h6] at r1 r0
      refine b46_0 (chk_i hT (chk_i (by omega) ?_))
      rw [if_pos f0]
      exact chk_i hT (c47 hT hc hz0 hr0 h5 h6 (by rw [e]; exact r1) (by rw [e]; exact r0))
    · rw [if_neg h6] at r1 r0
      have f := r5' h5 h6
      have z := (a7 h5).resolve_left h6
      rcases z.2 with ⟨g7, g6⟩ | ⟨g7, g6⟩ | ⟨g7, g6 | g6⟩
      · exact c46_43 hT hc h5 g6 g7 a5 (f.2.1 g7) r1' f.1 r2' r3' (r6' h5) r1 r0
      · exact c46_dig hT hc h5 (.inl ⟨g7, g6, f.2.2.2.2 g7⟩) r1' f.1 r2' r3' (r6' h5) r1 r0
      · exact c46_dig hT hc h5 (.inr (.inl ⟨g7, g6, f.2.2.1 g7 g6⟩)) r1' f.1 r2' r3' (r6' h5) r1 r0
      · exact c46_dig hT hc h5 (.inr (.inr ⟨g7, g6, f.2.2.2.1 g7 g6⟩)) r1' f.1 r2' r3' (r6' h5) r1 r0
  · have h51 : s.1 5 = 1 := a4.resolve_left h5
    rw [if_neg h5] at r1 r0
    by_cases h6 : s.1 6 = 0
    · rw [if_pos h6] at r1 r0
      exact c46_p0 hT hc h51 h6 a1 a3 (by rw [r7' h51, h6]; rfl) r1' r2' r3' (r8' h51 h6) r1 r0
    · rw [if_neg h6] at r1 r0
      have b := a8 h51
      refine c46_p1 hT hc h51 ?_ (fun h => ⟨r10' h51 h, a9 h51 h⟩) (r7' h51) r1' r2' r3' (r9' h51 h6) r1 r0
      have b1 := b.1
      have b2 := b.2.1
      clear a7 a8 a9 r4' r5' r6' r7' r8' r9' r10' b
      omega
end RL
