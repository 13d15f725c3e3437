section RM
variable {S : (Nat → Int32) × Nat} {t : qT} {D G : qD} {Q : Int → qT → qD → Prop}
/-- the page of the class holds the reference's page -/
def PGr (D G : qD) : Prop := D 1 1 = G 28 1 ∧ (0 ≤ G 28 1 ∧ G 28 1 ≤ 100) ∧ (∀ i, 0 ≤ i → i < G 28 1 → D 2 i = G 29 i ∧ 1 ≤ G 29 i ∧ G 29 i ≤ 126)
theorem PGr.of {D' : qD} (h : PGr D G) (h1 : D' 1 = D 1) (h2 : D' 2 = D 2) : PGr D' G := by unfold PGr; rw [h1, h2]; exact h
theorem c44_2 {a : Nat} (hT : (t.1 a).1 = 5) (ha1 : a ≠ 1) (ha2 : a ≠ 2) : ∀ (n : Nat) (i : Int) (D : qD) (s : zS), i + n = 100 → 0 ≤ i → i ≤ G 28 1 → PGr D G → zV s → ZR (D a) s →
    (∀ D', (∀ b, b ≠ a → D' b = D b) → (∀ s', (zRun (G 29) (G 28 1) n i s).2 = some s' → zV s' ∧ ZR (D' a) s') → Q (zRun (G 29) (G 28 1) n i s).1 t D') →
    wp S 42 2 [some (qr a), some (qs 1), some (qi i)] [] t D Q := by
  intro n
  induction n with
  | zero =>
    intro i D s hn hi hle hp hz hr k
    obtain ⟨p1, p2, p3⟩ := id hp
    refine b44_2 (chk_i (by omega) ?_)
    rw [p1]
    have e : zRun (G 29) (G 28 1) 0 i s = (i, some s) := rfl
    rw [e] at k
    refine chk_i (by omega) (ite_i (fun c => absurd c (by omega)) fun c => ?_)
    rw [show G 28 1 = i by omega]
    exact k D (fun _ _ => rfl) fun s' h => by cases h; exact ⟨hz, hr⟩
  | succ n ih =>
    intro i D s hn hi hle hp hz hr k
    obtain ⟨p1, p2, p3⟩ := id hp
    have ez : zRun (G 29) (G 28 1) (n + 1) i s = if i < G 28 1 then (match zStep s (G 29 i) with | some s' => zRun (G 29) (G 28 1) n (i + 1) s' | none => (i, none)) else (i, some s) := rfl
    refine b44_2 (chk_i (by omega) ?_)
    rw [p1]
    refine chk_i (by omega) (ite_i (fun c => c41 (by omega) (by omega) ?_) fun c => ?_)
    · have q := p3 i hi c
      rw [if_pos c] at ez
      rw [q.1]
      refine chk_i hT (c46 hT q.2 hz hr (fun D' s' h1 h2 h3 => ?_) fun D' h1 h3 => ?_)
      · rw [h1] at ez
        rw [ez] at k
        refine chk_i (by omega) (ite_i (fun h => absurd h (by decide)) fun _ => ?_)
        exact ih (i + 1) D' s' (by omega) (by omega) (by omega) (hp.of (h3 1 ha1.symm) (h3 2 ha2.symm)) (zV_step q.2 hz h1) h2 fun D'' h4 h5 => k D'' (fun b hb => (h4 b hb).trans (h3 b hb)) h5
      · rw [h1] at ez
        rw [ez] at k
        exact chk_i (by omega) (ite_i (fun _ => k D' h3 fun s' h => by cases h) fun h => absurd rfl h)
    · rw [if_neg c] at ez
      rw [ez] at k
      rw [show G 28 1 = i by omega]
      exact k D (fun _ _ => rfl) fun s' h => by cases h; exact ⟨hz, hr⟩
theorem c43 {a : Nat} (hT : (t.1 a).1 = 5) (k : ∀ D', (∀ b, b ≠ a → D' b = D b) → ZR (D' a) (z0 G) → Q 0 t D') : wp S 41 0 [some (qr a)] [] t D Q := by
  refine b43_0 (chk_i (by omega) (chk_i hT ?_))
  refine b43_9 (chk_i hT (b43_14 (chk_i hT (b43_19 (chk_i hT ?_)))))
  refine b43_24 (chk_i hT (b43_29 (chk_i hT (b43_34 (chk_i hT (k _ ?_ ?_))))))
  · intro b hb
    rw [up_ne hb, up_ne hb, up_ne hb, up_ne hb, up_ne hb, up_ne hb, up_ne hb]
  · rw [up_at, up_at, up_at, up_at, up_at, up_at, up_at]
    show ZRp 0 1 0 0 0 0 0 0 0 0 0 0 (G 28 7) 0 0 (G 33 (15 * 0 + 5 * 0 + 1))
    unfold ZRp; omega
/-- a new reader over the page: where it stops, and how it stands then -/
theorem c44n {a : Nat} (hT : (t.1 a).1 = 5) (ha1 : a ≠ 1) (ha2 : a ≠ 2) (hp : PGr D G) (hr : ZR (D a) (z0 G))
    (k : ∀ D', (∀ b, b ≠ a → D' b = D b) → (∀ s', (vRead G).2 = some s' → zV s' ∧ ZR (D' a) s') → Q (vRead G).1 t D') : wp S 42 0 [some (qr a), some (qs 1), none] [] t D Q :=
  b44_0 (c44_2 hT ha1 ha2 100 0 D (z0 G) rfl (Int.le_refl _) hp.2.1.1 hp (zV_0 G) hr k)
theorem c45 {a : Nat} {s : zS} (hT : (t.1 a).1 = 5) (hz : zV s) (hr : ZR (D a) s) (k : Q (if s.1 5 = 1 ∧ s.1 6 = 0 then 1 else 0) t D) : wp S 43 0 [some (qr a)] [] t D Q := by
  obtain ⟨a1, a2, a3, a4, a5, a6, a7, a8, a9⟩ := hz
  obtain ⟨r1, r2, r3, r4, r5, r6, r7, r8, r9, r10⟩ := hr
  have key : qR (D a 0) ∧ (D a 0 = 5 ↔ s.1 5 = 1 ∧ s.1 6 = 0) := by
    by_cases h5 : s.1 5 = 0
    · by_cases h6 : s.1 6 = 0
      · have := (r4 h5 h6).1
        rw [this, h5]; exact ⟨⟨by decide, by decide⟩, ⟨fun h => absurd h (by decide), fun h => absurd h.1 (by decide)⟩⟩
      · have f := r5 h5 h6
        rcases ((a7 h5).resolve_left h6).2 with ⟨g7, g6⟩ | ⟨g7, g6⟩ | ⟨g7, g6 | g6⟩
        · rw [f.2.1 g7, h5]; exact ⟨⟨by decide, by decide⟩, ⟨fun h => absurd h (by decide), fun h => absurd h.1 (by decide)⟩⟩
        · rw [f.2.2.2.2 g7, h5]; exact ⟨⟨by decide, by decide⟩, ⟨fun h => absurd h (by decide), fun h => absurd h.1 (by decide)⟩⟩
        · rw [f.2.2.1 g7 g6, h5]; exact ⟨⟨by decide, by decide⟩, ⟨fun h => absurd h (by decide), fun h => absurd h.1 (by decide)⟩⟩
        · rw [f.2.2.2.1 g7 g6, h5]; exact ⟨⟨by decide, by decide⟩, ⟨fun h => absurd h (by decide), fun h => absurd h.1 (by decide)⟩⟩
    · have h51 := a4.resolve_left h5
      have b := a8 h51
      have f := r7 h51
      clear a7 a8 a9 r4 r5 r6 r7 r8 r9 r10
      exact ⟨by omega, by omega⟩
  refine b45_0 (chk_i hT (chk_i key.1 (ite_i (fun h => ?_) fun h => ?_)))
  · rwa [if_pos (key.2.mp h)] at k
  · rwa [if_neg (fun z => h (key.2.mpr z))] at k
theorem KP.nw {t : qT} {D : qD} {n : Nat} {K : Nat × Int} {R : Int → Int} {z : Nat × Nat} (h : n ≤ t.2.2.1) : KP n t (nwT t.1 t.2.2.1 K, nwP t.2.1 t.2.2.1, z) D (upr D t.2.2.1 R) := fun b hb => by
  refine ⟨if_neg (by omega), ?_, upr_n (by omega)⟩
  funext j
  exact if_neg (by omega)
theorem KP.trans {n : Nat} {t u v : qT} {D E F : qD} (h : KP n t u D E) (k : KP n u v E F) : KP n t v D F := fun b hb => ⟨(k b hb).1.trans (h b hb).1, (k b hb).2.1.trans (h b hb).2.1, (k b hb).2.2.trans (h b hb).2.2⟩
theorem KP.d {n : Nat} {t : qT} {D E : qD} (h : ∀ b, b < n → E b = D b) : KP n t t D E := fun b hb => ⟨rfl, rfl, h b hb⟩
theorem KP.rfl' {n : Nat} {t : qT} {D : qD} : KP n t t D D := fun _ _ => ⟨rfl, rfl, rfl⟩
theorem c70 (hS : 34 ≤ t.2.2.1) (hp : PGr D G) (k : ∀ t' D', KP t.2.2.1 t t' D D' → t'.2.2.1 = t.2.2.1 + 1 → t'.2.2.2 = t.2.2.2 + 7 → Q (vRead G).1 t' D') : wp S 65 0 [some (qs 0)] [] t D Q := by
  refine b70_0 (chk_i (by rw [nwT_s]; decide) ?_)
  have hT : ((nwT t.1 t.2.2.1 (5, 0)) t.2.2.1).1 = 5 := by rw [nwT_s]
  have k0 : KP t.2.2.1 t (nwT t.1 t.2.2.1 (5, 0), nwP t.2.1 t.2.2.1, (t.2.2.1 + 1, t.2.2.2 + 7)) D (upr D t.2.2.1 (fun _ => 0)) := KP.nw (Nat.le_refl _)
  refine c43 (G := G) hT fun D1 h1 h2 => chk_i hT (c44n (G := G) hT (by omega) (by omega) ?_ h2 fun D2 h3 h4 => k _ D2 ?_ rfl rfl)
  · exact hp.of ((h1 1 (by omega)).trans (k0 1 (by omega)).2.2) ((h1 2 (by omega)).trans (k0 2 (by omega)).2.2)
  · refine k0.trans (KP.d fun b hb => ?_)
    rw [h3 b (by omega), h1 b (by omega)]
end RM
