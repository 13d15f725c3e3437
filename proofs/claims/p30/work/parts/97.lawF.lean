/-! ## a text by its letters: what its reading comes to -/
def rd (s0 : zS) (pg : Int → Int) : Nat → Option zS
  | 0 => some s0
  | n + 1 => (rd s0 pg n).bind fun s => zStep s (pg n)
theorem rd_cg {s0 : zS} {pg pg' : Int → Int} : ∀ n : Nat, (∀ i : Int, 0 ≤ i → i < n → pg' i = pg i) → rd s0 pg' n = rd s0 pg n := by
  intro n
  induction n with
  | zero => intro _; rfl
  | succ n ih =>
    intro h
    unfold rd
    rw [ih (fun i a b => h i a (by omega)), h n (by omega) (by omega)]
theorem rd_s {s0 : zS} {pg : Int → Int} {n : Nat} {s s' : zS} {c x : Int} (h : rd s0 pg n = some s) (hx : x = n) (e : zStep s c = some s') : rd s0 (ui pg x c) (n + 1) = some s' := by
  subst hx
  unfold rd
  rw [rd_cg n (fun i a b => ui_n (by omega)), h]
  show zStep s (ui pg n c n) = _
  rw [ui_s]; exact e
theorem rd_none {s0 : zS} {pg : Int → Int} {i : Nat} (h : rd s0 pg i = none) : ∀ m : Nat, rd s0 pg (i + m) = none := by
  intro m
  induction m with
  | zero => exact h
  | succ m ih =>
    show (rd s0 pg (i + m)).bind _ = none
    rw [ih]; rfl
theorem rd_run {s0 : zS} {pg : Int → Int} {N : Nat} {sN : zS} (hN : rd s0 pg N = some sN) : ∀ (m i fuel : Nat) (s : zS), i + m = N → m ≤ fuel → rd s0 pg i = some s → zRun pg N fuel i s = ((N : Int), some sN) := by
  intro m
  induction m with
  | zero =>
    intro i fuel s hi hf h
    have hi : i = N := by omega
    subst hi
    rw [hN] at h
    cases h
    cases fuel with
    | zero => rfl
    | succ k => exact if_neg (Int.lt_irrefl _)
  | succ m ih =>
    intro i fuel s hi hf h
    obtain ⟨k, rfl⟩ : ∃ k, fuel = k + 1 := ⟨fuel - 1, by omega⟩
    have e : zRun pg N (k + 1) i s = if (i : Int) < N then (match zStep s (pg i) with | some s' => zRun pg N k (i + 1) s' | none => ((i : Int), none)) else ((i : Int), some s) := rfl
    rw [e, if_pos (by omega)]
    have h1 : rd s0 pg (i + 1) = zStep s (pg i) := by
      show (rd s0 pg i).bind _ = _
      rw [h]; rfl
    cases hz : zStep s (pg i) with
    | none =>
      rw [hz] at h1
      have := rd_none h1 m
      rw [show i + 1 + m = N by omega, hN] at this
      cases this
    | some s' =>
      rw [hz] at h1
      exact ih (i + 1) k s' (by omega) (by omega) h1
theorem rd_ren {D : qD} {pg : Int → Int} : ∀ {n : Nat} {s : zS}, (∀ i : Int, 0 ≤ i → i < n → 1 ≤ pg i ∧ pg i ≤ 126) → rd (z0 D) pg n = some s → REN pg n s ∧ zV s := by
  intro n
  induction n with
  | zero =>
    intro s _ h
    cases h
    exact ⟨z0_ren (fun b => if b = 29 then pg else D b), zV_0 D⟩
  | succ n ih =>
    intro s hl h
    unfold rd at h
    obtain ⟨s1, h1, h2⟩ := Option.bind_eq_some_iff.mp h
    have := ih (fun i a b => hl i a (by omega)) h1
    exact ⟨zStep_ren this.2 this.1 h2, zV_step (hl n (by omega) (by omega)) this.2 h2⟩
theorem zS_o0 {s : zS} {c : Int} (h5 : s.1 5 = 0) (h6 : s.1 6 = 0) : zStep s c = zOp0 s c := by unfold zStep; rw [if_pos h5, if_pos h6]
theorem zS_o1 {s : zS} {c : Int} (h5 : s.1 5 = 0) (h6 : ¬ s.1 6 = 0) : zStep s c = zOp1 s c := by unfold zStep; rw [if_pos h5, if_neg h6]
theorem zS_p0 {s : zS} {c : Int} (h5 : s.1 5 = 1) (h6 : s.1 6 = 0) : zStep s c = zPd0 s c := by unfold zStep; rw [if_neg (by omega), if_pos h6]
theorem zS_p1 {s : zS} {c : Int} (h5 : s.1 5 = 1) (h6 : ¬ s.1 6 = 0) : zStep s c = zPd1 s c := by unfold zStep; rw [if_neg (by omega), if_neg h6]
/-- among the ops of the f-th function, k of them read -/
def OP0 (s : zS) (f k ad kp : Int) : Prop := s.1 2 = f ∧ s.1 3 = k ∧ s.1 4 = 0 ∧ s.1 5 = 0 ∧ s.1 6 = 0 ∧ s.1 8 = ad ∧ s.1 9 = kp
/-- what the ops of function f leave -/
def SBo (s s' : zS) (f : Int) : Prop := (∀ x, x ≠ f → s'.2.1 x = s.2.1 x) ∧ s'.2.2.1 = s.2.2.1 ∧ (∀ x, x < 24 * f → s'.2.2.2.1 x = s.2.2.2.1 x) ∧ s'.2.2.2.2 = s.2.2.2.2
theorem SBo.e {s : zS} {f c i : Int} {F : Int → Int} {op : Int → Int} (h : s.1 2 = f) (hF : F 2 = f) (ho : ∀ x, x < 24 * f → op x = s.2.2.2.1 x) : SBo s (zEnd (F, s.2.1, s.2.2.1, op, s.2.2.2.2)) f := by
  refine ⟨fun x hx => ?_, rfl, ho, rfl⟩
  show ui s.2.1 (F 2) _ x = _
  rw [ui_n (by omega)]
theorem st_plus {s : zS} {f k ad kp d : Int} (h : OP0 s f k ad kp) (hk : 0 ≤ k ∧ k < 8) (hd : 1 ≤ d ∧ d ≤ 9 ∧ ad + d < 10) : ∃ s1 s', zStep s 43 = some s1 ∧ zStep s1 (48 + d) = some s' ∧ OP0 s' f (k + 1) (ad + d) kp ∧ SBo s s' f := by
  obtain ⟨h2, h3, h4, h5, h6, h8, h9⟩ := h
  refine ⟨(ui (ui s.1 7 43) 6 1, s.2.1, s.2.2.1, ui s.2.2.2.1 (24 * s.1 2 + 3 * s.1 3) 43, s.2.2.2.2), zEnd (ui (ui (ui s.1 7 43) 6 1) 8 (s.1 8 + (48 + d - 48)), s.2.1, s.2.2.1, ui (ui s.2.2.2.1 (24 * s.1 2 + 3 * s.1 3) 43) (24 * s.1 2 + 3 * s.1 3 + 1) (48 + d - 48), s.2.2.2.2), ?_, ?_, ?_, ?_⟩
  · rw [zS_o0 h5 h6]
    unfold zOp0
    rw [if_neg (by decide), if_neg (by omega), if_pos (Or.inl rfl)]
  · refine (zS_o1 (by exact h5) (fun h => absurd (show (1 : Int) = 0 from h) (by decide))).trans ?_
    unfold zOp1
    rw [if_pos (show ui (ui s.1 7 43) 6 1 7 = 43 from rfl)]
    exact if_pos ⟨by omega, by omega, by show s.1 8 + (48 + d) - 48 < 10; omega⟩
  · refine ⟨h2, ?_, h4, h5, rfl, ?_, h9⟩
    · show s.1 3 + 1 = _; rw [h3]
    · show s.1 8 + (48 + d - 48) = _; rw [h8]; omega
  · exact SBo.e (c := 0) (i := 0) h2 h2 fun x hx => by rw [ui_n (by omega), ui_n (by omega)]
theorem st_m {s : zS} {f k ad kp : Int} (h : OP0 s f k ad kp) (hk : 0 ≤ k ∧ k < 8) (hd : kp < 3) : ∃ s', zStep s 109 = some s' ∧ OP0 s' f (k + 1) ad (kp + 1) ∧ SBo s s' f := by
  obtain ⟨h2, h3, h4, h5, h6, h8, h9⟩ := h
  refine ⟨zEnd (ui (ui s.1 9 (s.1 9 + 1)) 7 109, s.2.1, s.2.2.1, ui s.2.2.2.1 (24 * s.1 2 + 3 * s.1 3) 109, s.2.2.2.2), ?_, ?_, ?_⟩
  · rw [zS_o0 h5 h6]
    unfold zOp0
    rw [if_neg (by decide), if_neg (by omega), if_neg (by decide), if_pos ⟨rfl, by omega⟩]
  · refine ⟨h2, ?_, h4, h5, rfl, h8, ?_⟩
    · show s.1 3 + 1 = _; rw [h3]
    · show s.1 9 + 1 = _; rw [h9]
  · exact SBo.e (c := 0) (i := 0) h2 h2 fun x hx => by rw [ui_n (by omega)]
theorem st_b {s : zS} {f k ad kp : Int} (h : OP0 s f k ad kp) (hk : 0 ≤ k ∧ k < 8) (hd : 0 < kp) : ∃ s', zStep s 98 = some s' ∧ OP0 s' f (k + 1) ad (kp + -1) ∧ SBo s s' f := by
  obtain ⟨h2, h3, h4, h5, h6, h8, h9⟩ := h
  refine ⟨zEnd (ui (ui s.1 9 (s.1 9 + -1)) 7 98, s.2.1, s.2.2.1, ui s.2.2.2.1 (24 * s.1 2 + 3 * s.1 3) 98, s.2.2.2.2), ?_, ?_, ?_⟩
  · rw [zS_o0 h5 h6]
    unfold zOp0
    rw [if_neg (by decide), if_neg (by omega), if_neg (by decide), if_neg (fun h => absurd h.1 (by decide)), if_pos ⟨rfl, by omega⟩]
  · refine ⟨h2, ?_, h4, h5, rfl, h8, ?_⟩
    · show s.1 3 + 1 = _; rw [h3]
    · show s.1 9 + -1 = _; rw [h9]
  · exact SBo.e (c := 0) (i := 0) h2 h2 fun x hx => by rw [ui_n (by omega)]
theorem st_u {s : zS} {f k ad kp r : Int} (h : OP0 s f k ad kp) (hk : 0 ≤ k ∧ k < 8) (hd : 0 ≤ r ∧ r ≤ 3) : ∃ s1 s', zStep s 117 = some s1 ∧ zStep s1 (48 + r) = some s' ∧ OP0 s' f (k + 1) ad kp ∧ SBo s s' f := by
  obtain ⟨h2, h3, h4, h5, h6, h8, h9⟩ := h
  refine ⟨(ui (ui s.1 7 117) 6 1, s.2.1, s.2.2.1, ui s.2.2.2.1 (24 * s.1 2 + 3 * s.1 3) 117, s.2.2.2.2), zEnd (ui (ui s.1 7 117) 6 1, s.2.1, s.2.2.1, ui (ui s.2.2.2.1 (24 * s.1 2 + 3 * s.1 3) 117) (24 * s.1 2 + 3 * s.1 3 + 1) (48 + r - 48), s.2.2.2.2), ?_, ?_, ?_, ?_⟩
  · rw [zS_o0 h5 h6]
    unfold zOp0
    rw [if_neg (by decide), if_neg (by omega), if_pos (Or.inr (Or.inr rfl))]
  · refine (zS_o1 (by exact h5) (fun h => absurd (show (1 : Int) = 0 from h) (by decide))).trans ?_
    unfold zOp1
    rw [if_neg (show ¬ ui (ui s.1 7 117) 6 1 7 = 43 from fun h => absurd (show (117 : Int) = 43 from h) (by decide)), if_pos (show ui (ui s.1 7 117) 6 1 6 = 1 from rfl), if_pos ⟨by omega, by omega⟩]
    exact if_neg (show ¬ ui (ui s.1 7 117) 6 1 7 = 115 from fun h => absurd (show (117 : Int) = 115 from h) (by decide))
  · refine ⟨h2, ?_, h4, h5, rfl, h8, h9⟩
    show s.1 3 + 1 = _; rw [h3]
  · exact SBo.e (c := 0) (i := 0) h2 h2 fun x hx => by rw [ui_n (by omega), ui_n (by omega)]
theorem st_s {s : zS} {f k ad kp r c : Int} (h : OP0 s f k ad kp) (hk : 0 ≤ k ∧ k < 8) (hd : 0 ≤ r ∧ r ≤ 3) (hc : 0 ≤ c ∧ c ≤ 5) : ∃ s1 s2 s', zStep s 115 = some s1 ∧ zStep s1 (48 + r) = some s2 ∧ zStep s2 (48 + c) = some s' ∧ OP0 s' f (k + 1) ad kp ∧ SBo s s' f := by
  obtain ⟨h2, h3, h4, h5, h6, h8, h9⟩ := h
  refine ⟨(ui (ui s.1 7 115) 6 1, s.2.1, s.2.2.1, ui s.2.2.2.1 (24 * s.1 2 + 3 * s.1 3) 115, s.2.2.2.2), (ui (ui (ui s.1 7 115) 6 1) 6 2, s.2.1, s.2.2.1, ui (ui s.2.2.2.1 (24 * s.1 2 + 3 * s.1 3) 115) (24 * s.1 2 + 3 * s.1 3 + 1) (48 + r - 48), s.2.2.2.2), zEnd (ui (ui (ui s.1 7 115) 6 1) 6 2, s.2.1, s.2.2.1, ui (ui (ui s.2.2.2.1 (24 * s.1 2 + 3 * s.1 3) 115) (24 * s.1 2 + 3 * s.1 3 + 1) (48 + r - 48)) (24 * s.1 2 + 3 * s.1 3 + 2) (48 + c - 48), s.2.2.2.2), ?_, ?_, ?_, ?_, ?_⟩
  · rw [zS_o0 h5 h6]
    unfold zOp0
    rw [if_neg (by decide), if_neg (by omega), if_pos (Or.inr (Or.inl rfl))]
  · refine (zS_o1 (by exact h5) (fun h => absurd (show (1 : Int) = 0 from h) (by decide))).trans ?_
    unfold zOp1
    rw [if_neg (show ¬ ui (ui s.1 7 115) 6 1 7 = 43 from fun h => absurd (show (115 : Int) = 43 from h) (by decide)), if_pos (show ui (ui s.1 7 115) 6 1 6 = 1 from rfl), if_pos ⟨by omega, by omega⟩]
    exact if_pos (show ui (ui s.1 7 115) 6 1 7 = 115 from rfl)
  · refine (zS_o1 (by exact h5) (fun h => absurd (show (2 : Int) = 0 from h) (by decide))).trans ?_
    unfold zOp1
    rw [if_neg (show ¬ ui (ui (ui s.1 7 115) 6 1) 6 2 7 = 43 from fun h => absurd (show (115 : Int) = 43 from h) (by decide)), if_neg (show ¬ ui (ui (ui s.1 7 115) 6 1) 6 2 6 = 1 from fun h => absurd (show (2 : Int) = 1 from h) (by decide))]
    exact if_pos ⟨by omega, by omega⟩
  · refine ⟨h2, ?_, h4, h5, rfl, h8, h9⟩
    show s.1 3 + 1 = _; rw [h3]
  · exact SBo.e (c := 0) (i := 0) h2 h2 fun x hx => by rw [ui_n (by omega), ui_n (by omega), ui_n (by omega)]
/-- among the pads of the f-th function, p of them read -/
def PD0 (s : zS) (f p : Int) : Prop := s.1 2 = f ∧ s.1 4 = p ∧ s.1 5 = 1 ∧ s.1 6 = 0
theorem st_end {s : zS} {f k ad kp : Int} (h : OP0 s f k ad kp) : ∃ s', zStep s 59 = some s' ∧ PD0 s' f 0 ∧ s'.2 = s.2 := by
  obtain ⟨h2, h3, h4, h5, h6, h8, h9⟩ := h
  refine ⟨(ui s.1 5 1, s.2), ?_, ⟨h2, h4, rfl, h6⟩, rfl⟩
  rw [zS_o0 h5 h6]
  unfold zOp0
  rw [if_pos rfl]
theorem st_next {s : zS} {f p : Int} (h : PD0 s f p) (hf : 0 ≤ f ∧ f < 2) : ∃ s', zStep s 47 = some s' ∧ OP0 s' (f + 1) 0 0 0 ∧ s'.2.1 = ui s.2.1 (f + 1) 0 ∧ s'.2.2.1 = ui s.2.2.1 (f + 1) 0 ∧ s'.2.2.2 = s.2.2.2 := by
  obtain ⟨h2, h4, h5, h6⟩ := h
  refine ⟨(zBeg s.1, ui s.2.1 (s.1 2 + 1) 0, ui s.2.2.1 (s.1 2 + 1) 0, s.2.2.2), ?_, ⟨?_, rfl, rfl, rfl, rfl, rfl, rfl⟩, ?_, ?_, rfl⟩
  · rw [zS_p0 h5 h6]
    unfold zPd0
    rw [if_pos ⟨rfl, by omega⟩]
  · show s.1 2 + 1 = _; rw [h2]
  · show ui s.2.1 (s.1 2 + 1) 0 = _; rw [h2]
  · show ui s.2.2.1 (s.1 2 + 1) 0 = _; rw [h2]
/-- a pad of five letters -/
def pdw (pd : Int → Int) (x kd a b o l : Int) : Int → Int := ui (ui (ui (ui (ui pd x kd) (x + 1) a) (x + 2) b) (x + 3) o) (x + 4) l
theorem st_pad {s : zS} {f p c kd a b o l : Int} (h : PD0 s f p) (hf : 0 ≤ f) (hp : 0 ≤ p ∧ p < 3) (hc : zKind c = kd) (hk : 0 ≤ kd) (h47 : ¬ c = 47) (ha : 0 ≤ a ∧ a ≤ 9) (hb : a ≤ b ∧ b ≤ 9) (ho : 0 ≤ o ∧ o ≤ 4) (hl : 0 ≤ l ∧ l ≤ 9) :
    ∃ s1 s2 s3 s4 s', zStep s c = some s1 ∧ zStep s1 (48 + a) = some s2 ∧ zStep s2 (48 + b) = some s3 ∧ zStep s3 (48 + o) = some s4 ∧ zStep s4 (48 + l) = some s' ∧ PD0 s' f (p + 1) ∧ s'.2.1 = s.2.1 ∧ s'.2.2.1 = ui s.2.2.1 f (p + 1) ∧ s'.2.2.2.1 = s.2.2.2.1 ∧ s'.2.2.2.2 = pdw s.2.2.2.2 (15 * f + 5 * p) kd a b o l := by
  obtain ⟨h2, h4, h5, h6⟩ := h
  generalize hx : 15 * f + 5 * p = x
  have ex : 15 * s.1 2 + 5 * s.1 4 = x := by rw [h2, h4]; exact hx
  refine ⟨(ui s.1 6 1, s.2.1, s.2.2.1, s.2.2.2.1, ui s.2.2.2.2 x kd), (ui (ui s.1 6 1) 6 2, s.2.1, s.2.2.1, s.2.2.2.1, ui (ui s.2.2.2.2 x kd) (x + 1) a), (ui (ui (ui s.1 6 1) 6 2) 6 3, s.2.1, s.2.2.1, s.2.2.2.1, ui (ui (ui s.2.2.2.2 x kd) (x + 1) a) (x + 2) b), (ui (ui (ui (ui s.1 6 1) 6 2) 6 3) 6 4, s.2.1, s.2.2.1, s.2.2.2.1, ui (ui (ui (ui s.2.2.2.2 x kd) (x + 1) a) (x + 2) b) (x + 3) o), (ui (ui (ui (ui (ui (ui s.1 6 1) 6 2) 6 3) 6 4) 6 0) 4 (p + 1), s.2.1, ui s.2.2.1 f (p + 1), s.2.2.2.1, pdw s.2.2.2.2 x kd a b o l), ?_, ?_, ?_, ?_, ?_, ⟨h2, rfl, h5, rfl⟩, rfl, rfl, rfl, rfl⟩
  · rw [zS_p0 h5 h6]
    unfold zPd0
    rw [if_neg (fun h => h47 h.1), hc, if_neg (by omega), if_neg (by omega), ex]
  · refine (zS_p1 (by exact h5) (fun h => absurd (show (1 : Int) = 0 from h) (by decide))).trans ?_
    unfold zPd1
    rw [if_pos ⟨by omega, by omega, fun h => absurd (show (1 : Int) = 3 from h) (by decide), fun h => absurd (show (1 : Int) = 2 from h) (by decide)⟩]
    refine (if_neg (fun h => absurd (show (1 : Int) = 4 from h) (by decide))).trans ?_
    show some (ui (ui s.1 6 1) 6 (1 + 1), _, _, _, ui (ui s.2.2.2.2 x kd) (15 * s.1 2 + 5 * s.1 4 + 1) (48 + a - 48)) = _
    rw [ex, show 48 + a - 48 = a by omega]; rfl
  · refine (zS_p1 (by exact h5) (fun h => absurd (show (2 : Int) = 0 from h) (by decide))).trans ?_
    unfold zPd1
    rw [if_pos ⟨by omega, by omega, fun h => absurd (show (2 : Int) = 3 from h) (by decide), fun _ => by show ui (ui s.2.2.2.2 x kd) (x + 1) a (15 * s.1 2 + 5 * s.1 4 + 1) ≤ _; rw [ex, ui_s]; omega⟩]
    refine (if_neg (fun h => absurd (show (2 : Int) = 4 from h) (by decide))).trans ?_
    show some (ui (ui (ui s.1 6 1) 6 2) 6 (2 + 1), _, _, _, ui (ui (ui s.2.2.2.2 x kd) (x + 1) a) (15 * s.1 2 + 5 * s.1 4 + 2) (48 + b - 48)) = _
    rw [ex, show 48 + b - 48 = b by omega]; rfl
  · refine (zS_p1 (by exact h5) (fun h => absurd (show (3 : Int) = 0 from h) (by decide))).trans ?_
    unfold zPd1
    rw [if_pos ⟨by omega, by omega, fun _ => by omega, fun h => absurd (show (3 : Int) = 2 from h) (by decide)⟩]
    refine (if_neg (fun h => absurd (show (3 : Int) = 4 from h) (by decide))).trans ?_
    show some (ui (ui (ui (ui s.1 6 1) 6 2) 6 3) 6 (3 + 1), _, _, _, ui (ui (ui (ui s.2.2.2.2 x kd) (x + 1) a) (x + 2) b) (15 * s.1 2 + 5 * s.1 4 + 3) (48 + o - 48)) = _
    rw [ex, show 48 + o - 48 = o by omega]; rfl
  · refine (zS_p1 (by exact h5) (fun h => absurd (show (4 : Int) = 0 from h) (by decide))).trans ?_
    unfold zPd1
    rw [if_pos ⟨by omega, by omega, fun h => absurd (show (4 : Int) = 3 from h) (by decide), fun h => absurd (show (4 : Int) = 2 from h) (by decide)⟩]
    refine (if_pos (show (4 : Int) = 4 from rfl)).trans ?_
    show some (ui (ui (ui (ui (ui (ui s.1 6 1) 6 2) 6 3) 6 4) 6 0) 4 (s.1 4 + 1), _, ui s.2.2.1 (s.1 2) (s.1 4 + 1), _, ui (ui (ui (ui (ui s.2.2.2.2 x kd) (x + 1) a) (x + 2) b) (x + 3) o) (15 * s.1 2 + 5 * s.1 4 + 4) (48 + l - 48)) = _
    rw [ex, h2, h4, show 48 + l - 48 = l by omega]; rfl
