/-! ## the text that the law writes: where it keeps what, and what its reading says -/
def BKs (B Dk : Int → Int) (s : zS) (f : Nat) : Prop :=
  (∀ g : Nat, g < f → B (4 + g) = s.2.2.1 g) ∧
  (∀ g : Nat, g ≤ f → B (1 + g) = fPos s.2.1 s.2.2.1 s.2.2.2.1 g ∧ ∀ q : Int, 0 ≤ q → q < s.2.2.1 g → B (7 + 3 * g + q) = fPos s.2.1 s.2.2.1 s.2.2.2.1 g + oLen s.2.2.2.1 g (s.2.1 g).toNat + 1 + 5 * q) ∧
  (∀ g q : Int, 0 ≤ g → g < 3 → 0 ≤ q → q < 3 → Dk (3 * g + q) = if g ≤ f ∧ q < s.2.2.1 g then s.2.2.2.2 (15 * g + 5 * q) else 0)
def LTs (T : Int → Int) (n : Nat) : Prop := ∀ i : Int, 0 ≤ i → i < n → 1 ≤ T i ∧ T i ≤ 126
theorem LTs.a {T : Int → Int} {n : Nat} {c x : Int} (h : LTs T n) (hx : x = n) (hc : 1 ≤ c ∧ c ≤ 126) : LTs (ui T x c) (n + 1) := by
  intro i a b
  by_cases e : i = x
  · rw [e, ui_s]; exact hc
  · rw [ui_n e]; exact h i a (by omega)
def OM8 (s : zS) (f : Nat) : Prop := ∀ g : Nat, g < f → s.2.1 g ≤ 8 ∧ s.2.2.1 g ≤ 3
theorem BKs.b {B Dk : Int → Int} {s : zS} {f : Nat} {x : Int} (h : BKs B Dk s f) (hf : f < 3) : BKs (ui B (4 + f) x) Dk s f := by
  refine ⟨fun g hg => ?_, fun g hg => ⟨?_, fun q a b => ?_⟩, h.2.2⟩
  · rw [ui_n (by omega)]; exact h.1 g hg
  · rw [ui_n (by omega)]; exact (h.2.1 g hg).1
  · rw [ui_n (by omega)]; exact (h.2.1 g hg).2 q a b
theorem fPos_s {s s' : zS} {f g : Nat} (h8 : OM8 s f) (hg : g ≤ f) (h1 : ∀ x : Int, x < f → s'.2.1 x = s.2.1 x) (h2 : ∀ x : Int, x < f → s'.2.2.1 x = s.2.2.1 x) (h3 : ∀ x : Int, x < 24 * f → s'.2.2.2.1 x = s.2.2.2.1 x) : fPos s'.2.1 s'.2.2.1 s'.2.2.2.1 g = fPos s.2.1 s.2.2.1 s.2.2.2.1 g :=
  fPos_cg (fun j hj => (h8 j (by omega)).1) (fun x a b => ⟨h1 x (by omega), h2 x (by omega)⟩) (fun x a b => h3 x (by omega))
theorem oLen_s {s s' : zS} {f g : Nat} (h8 : OM8 s f) (hg : g < f) (h1 : ∀ x : Int, x < f → s'.2.1 x = s.2.1 x) (h3 : ∀ x : Int, x < 24 * f → s'.2.2.2.1 x = s.2.2.2.1 x) : oLen s'.2.2.2.1 g (s'.2.1 g).toNat = oLen s.2.2.2.1 g (s.2.1 g).toNat := by
  have h := h8 g hg
  rw [h1 g (by omega)]
  exact oLen_cg fun x a b => h3 x (by omega)
theorem BKs.op {B Dk : Int → Int} {s s' : zS} {f : Nat} (h : BKs B Dk s f) (hs : SBo s s' f) (h8 : OM8 s f) (h0 : s.2.2.1 f = 0) : BKs B Dk s' f := by
  obtain ⟨o1, o2, o3, o4⟩ := hs
  have eF : ∀ g : Nat, g ≤ f → fPos s'.2.1 s.2.2.1 s'.2.2.2.1 g = fPos s.2.1 s.2.2.1 s.2.2.2.1 g := fun g hg => by
    have e := fPos_s (s' := s') h8 hg (fun x hx => o1 x (by omega)) (fun x _ => by rw [o2]) (fun x hx => o3 x hx)
    rw [o2] at e; exact e
  unfold BKs
  rw [o2, o4]
  refine ⟨h.1, fun g hg => ⟨?_, fun q a b => ?_⟩, h.2.2⟩
  · rw [(h.2.1 g hg).1, eF g hg]
  · have hgf : g < f := by
      rcases Nat.lt_or_ge g f with c | c
      · exact c
      · have : g = f := by omega
        subst this; omega
    rw [(h.2.1 g hg).2 q a b, eF g hg, oLen_s (s' := s') h8 hgf (fun x hx => o1 x (by omega)) (fun x hx => o3 x hx)]
theorem pdw_n {pd : Int → Int} {x kd a b o l y : Int} (h : y < x ∨ x + 4 < y) : pdw pd x kd a b o l y = pd y := by
  unfold pdw
  rw [ui_n (by omega), ui_n (by omega), ui_n (by omega), ui_n (by omega), ui_n (by omega)]
theorem pdw_0 {pd : Int → Int} {x kd a b o l : Int} : pdw pd x kd a b o l x = kd := by
  unfold pdw
  rw [ui_n (by omega), ui_n (by omega), ui_n (by omega), ui_n (by omega), ui_s]
theorem BKs.pad {B Dk : Int → Int} {s s' : zS} {f : Nat} {p n kd a b o l : Int} (h : BKs B Dk s f) (hf : f < 3) (h8 : OM8 s f) (hp : 0 ≤ p ∧ p < 3) (hpm : s.2.2.1 f = p) (hn : n = fPos s.2.1 s.2.2.1 s.2.2.2.1 f + oLen s.2.2.2.1 f (s.2.1 f).toNat + 1 + 5 * p) (e1 : s'.2.1 = s.2.1) (e2 : s'.2.2.1 = ui s.2.2.1 f (p + 1)) (e3 : s'.2.2.2.1 = s.2.2.2.1) (e4 : s'.2.2.2.2 = pdw s.2.2.2.2 (15 * f + 5 * p) kd a b o l) : BKs (ui B (7 + 3 * f + p) n) (ui Dk (3 * f + p) kd) s' f := by
  have eF : ∀ g : Nat, g ≤ f → fPos s'.2.1 s'.2.2.1 s'.2.2.2.1 g = fPos s.2.1 s.2.2.1 s.2.2.2.1 g := fun g hg => fPos_s h8 hg (fun x _ => by rw [e1]) (fun x hx => by rw [e2, ui_n (by omega)]) (fun x _ => by rw [e3])
  refine ⟨fun g hg => ?_, fun g hg => ⟨?_, fun q x y => ?_⟩, fun g q x1 x2 x3 x4 => ?_⟩
  · rw [ui_n (by omega), e2, ui_n (by omega)]; exact h.1 g hg
  · rw [ui_n (by omega), eF g hg]; exact (h.2.1 g hg).1
  · rw [eF g hg, e1, e3]
    rw [e2] at y
    by_cases c : g = f
    · subst c
      rw [ui_s] at y
      by_cases cq : q = p
      · rw [cq, ui_s, hn]
      · rw [ui_n (by omega)]; exact (h.2.1 g hg).2 q x (by omega)
    · rw [ui_n (by omega)] at y
      have := (h8 g (by omega)).2
      rw [ui_n (by omega)]; exact (h.2.1 g hg).2 q x y
  · rw [e2, e4]
    by_cases c : g = f
    · rw [c, ui_s]
      by_cases cq : q = p
      · rw [cq, ui_s, if_pos ⟨Int.le_refl _, by omega⟩, pdw_0]
      · rw [ui_n (by omega), h.2.2 f q (by omega) (by omega) x3 x4, hpm]
        by_cases cl : q < p
        · rw [if_pos ⟨Int.le_refl _, cl⟩, if_pos ⟨Int.le_refl _, by omega⟩, pdw_n (by omega)]
        · rw [if_neg (by omega), if_neg (by omega)]
    · rw [ui_n (by omega), ui_n c, h.2.2 g q x1 x2 x3 x4, pdw_n (by omega)]
theorem BKs.nx {B Dk : Int → Int} {s s' : zS} {f : Nat} {n : Int} (h : BKs B Dk s f) (hf : f < 2) (h8 : OM8 s (f + 1)) (hB : B (4 + f) = s.2.2.1 f) (e1 : s'.2.1 = ui s.2.1 ((f + 1 : Nat) : Int) 0) (e2 : s'.2.2.1 = ui s.2.2.1 ((f + 1 : Nat) : Int) 0) (e3 : s'.2.2.2 = s.2.2.2) (hn : n = fPos s'.2.1 s'.2.2.1 s'.2.2.2.1 (f + 1)) : BKs (ui B (1 + ((f + 1 : Nat) : Int)) n) Dk s' (f + 1) := by
  have eF : ∀ g : Nat, g ≤ f + 1 → fPos s'.2.1 s'.2.2.1 s'.2.2.2.1 g = fPos s.2.1 s.2.2.1 s.2.2.2.1 g := fun g hg => fPos_s h8 hg (fun x hx => by rw [e1, ui_n (by omega)]) (fun x hx => by rw [e2, ui_n (by omega)]) (fun x _ => by rw [e3])
  refine ⟨fun g hg => ?_, fun g hg => ⟨?_, fun q x y => ?_⟩, fun g q x1 x2 x3 x4 => ?_⟩
  · rw [ui_n (by omega), e2, ui_n (by omega)]
    by_cases c : g = f
    · rw [c]; exact hB
    · exact h.1 g (by omega)
  · by_cases c : g = f + 1
    · rw [c, ui_s]; exact hn
    · rw [ui_n (by omega), eF g hg]; exact (h.2.1 g (by omega)).1
  · by_cases c : g = f + 1
    · rw [e2, c, ui_s] at y; omega
    · rw [e2, ui_n (by omega)] at y
      rw [ui_n (by omega), eF g hg, e3, e1, ui_n (by omega)]; exact (h.2.1 g (by omega)).2 q x y
  · rw [e2, e3, h.2.2 g q x1 x2 x3 x4]
    by_cases c : g = ((f + 1 : Nat) : Int)
    · rw [c, ui_s, if_neg (by omega), if_neg (by omega)]
    · rw [ui_n c]
      by_cases c2 : g ≤ f ∧ q < s.2.2.1 g
      · rw [if_pos c2, if_pos ⟨by omega, c2.2⟩]
      · rw [if_neg c2, if_neg (fun z => c2 ⟨by omega, z.2⟩)]
/-- before an op of the f-th function; before a pad of it -/
def OPP (T B Dk : Int → Int) (n f : Nat) (k ad kp : Int) : Prop := LTs T n ∧ ∀ G : qD, ∃ s, rd (z0 G) T n = some s ∧ OP0 s f k ad kp ∧ BKs B Dk s f
def PDP (T B Dk : Int → Int) (n f : Nat) (p : Int) : Prop := LTs T n ∧ ∀ G : qD, ∃ s, rd (z0 G) T n = some s ∧ PD0 s f p ∧ BKs B Dk s f
theorem rd_op {T : Int → Int} {n f : Nat} {G : qD} {s : zS} {k ad kp : Int} (hl : LTs T n) (h : rd (z0 G) T n = some s) (ho : OP0 s f k ad kp) : OM8 s f ∧ s.2.2.1 f = 0 ∧ (k = 0 → (n : Int) = fPos s.2.1 s.2.2.1 s.2.2.2.1 f) := by
  obtain ⟨h2, h3, h4, h5, h6, -, -⟩ := ho
  obtain ⟨⟨M, O, m1, m2, r1, r2, ⟨-, r3, -, -⟩, r4, -⟩, -⟩ := rd_ren hl h
  have : M = f := by omega
  subst this
  refine ⟨fun g hg => ⟨(r1 g hg).1.1.2.1, (r1 g hg).1.1.2.2.2⟩, by rw [r3]; exact h4, fun hk => ?_⟩
  have r5 := (r4 h5).2.1
  have : O = 0 := by omega
  subst this
  have e0 : oLen s.2.2.2.1 M 0 = 0 := rfl
  omega
theorem rd_pd {T : Int → Int} {n f : Nat} {G : qD} {s : zS} {p : Int} (hl : LTs T n) (h : rd (z0 G) T n = some s) (ho : PD0 s f p) : OM8 s f ∧ OM8 s (f + 1) ∧ s.2.2.1 f = p ∧ (n : Int) = fPos s.2.1 s.2.2.1 s.2.2.2.1 f + oLen s.2.2.2.1 f (s.2.1 f).toNat + 1 + 5 * p := by
  obtain ⟨h2, h4, h5, h6⟩ := ho
  obtain ⟨⟨M, O, m1, m2, r1, r2, ⟨r6, r3, -, -⟩, -, r4⟩, hz⟩ := rd_ren hl h
  have : M = f := by omega
  subst this
  have r5 := (r4 h5).2.2.1
  have hz1 := hz.2.1
  have hz2 := hz.2.2.1
  have hm : OM8 s M := fun g hg => ⟨(r1 g hg).1.1.2.1, (r1 g hg).1.1.2.2.2⟩
  refine ⟨hm, fun g hg => ?_, by rw [r3]; exact h4, ?_⟩
  · by_cases c : g = M
    · rw [c, r6, r3]; omega
    · exact hm g (by omega)
  · rw [r6, Int.toNat_natCast]; omega
section LG
variable {T B Dk : Int → Int} {n f : Nat} {k ad kp p x : Int}
theorem OPP.plus {d y c1 : Int} (h : OPP T B Dk n f k ad kp) (hx : x = n) (hy : y = x + 1) (hc : c1 = 48 + d) (hk : 0 ≤ k ∧ k < 8) (hd : 1 ≤ d ∧ d ≤ 9 ∧ ad + d < 10) : OPP (ui (ui T x 43) y c1) B Dk (n + 1 + 1) f (k + 1) (ad + d) kp := by
  subst hc
  refine ⟨(h.1.a hx (by decide)).a (by omega) (by omega), fun G => ?_⟩
  obtain ⟨s, h1, h2, h3⟩ := h.2 G
  obtain ⟨a1, a2, -⟩ := rd_op h.1 h1 h2
  obtain ⟨s1, s', e1, e2, e3, e4⟩ := st_plus h2 hk hd
  exact ⟨s', rd_s (rd_s h1 hx e1) (by omega) e2, e3, h3.op e4 a1 a2⟩
theorem OPP.m (h : OPP T B Dk n f k ad kp) (hx : x = n) (hk : 0 ≤ k ∧ k < 8) (hd : kp < 3) : OPP (ui T x 109) B Dk (n + 1) f (k + 1) ad (kp + 1) := by
  refine ⟨h.1.a hx (by decide), fun G => ?_⟩
  obtain ⟨s, h1, h2, h3⟩ := h.2 G
  obtain ⟨a1, a2, -⟩ := rd_op h.1 h1 h2
  obtain ⟨s', e1, e3, e4⟩ := st_m h2 hk hd
  exact ⟨s', rd_s h1 hx e1, e3, h3.op e4 a1 a2⟩
theorem OPP.bk (h : OPP T B Dk n f k ad kp) (hx : x = n) (hk : 0 ≤ k ∧ k < 8) (hd : 0 < kp) : OPP (ui T x 98) B Dk (n + 1) f (k + 1) ad (kp + -1) := by
  refine ⟨h.1.a hx (by decide), fun G => ?_⟩
  obtain ⟨s, h1, h2, h3⟩ := h.2 G
  obtain ⟨a1, a2, -⟩ := rd_op h.1 h1 h2
  obtain ⟨s', e1, e3, e4⟩ := st_b h2 hk hd
  exact ⟨s', rd_s h1 hx e1, e3, h3.op e4 a1 a2⟩
theorem OPP.u {y r : Int} (h : OPP T B Dk n f k ad kp) (hx : x = n) (hy : y = x + 1) (hk : 0 ≤ k ∧ k < 8) (hd : 0 ≤ r ∧ r ≤ 3) : OPP (ui (ui T x 117) y (48 + r)) B Dk (n + 1 + 1) f (k + 1) ad kp := by
  refine ⟨(h.1.a hx (by decide)).a (by omega) (by omega), fun G => ?_⟩
  obtain ⟨s, h1, h2, h3⟩ := h.2 G
  obtain ⟨a1, a2, -⟩ := rd_op h.1 h1 h2
  obtain ⟨s1, s', e1, e2, e3, e4⟩ := st_u h2 hk hd
  exact ⟨s', rd_s (rd_s h1 hx e1) (by omega) e2, e3, h3.op e4 a1 a2⟩
theorem OPP.s {y z r c : Int} (h : OPP T B Dk n f k ad kp) (hx : x = n) (hy : y = x + 1) (hz : z = x + 1 + 1) (hk : 0 ≤ k ∧ k < 8) (hd : 0 ≤ r ∧ r ≤ 3) (hc : 0 ≤ c ∧ c ≤ 5) : OPP (ui (ui (ui T x 115) y (48 + r)) z (48 + c)) B Dk (n + 1 + 1 + 1) f (k + 1) ad kp := by
  refine ⟨((h.1.a hx (by decide)).a (by omega) (by omega)).a (by omega) (by omega), fun G => ?_⟩
  obtain ⟨s, h1, h2, h3⟩ := h.2 G
  obtain ⟨a1, a2, -⟩ := rd_op h.1 h1 h2
  obtain ⟨s1, s2, s', e1, e2, e5, e3, e4⟩ := st_s h2 hk hd hc
  exact ⟨s', rd_s (rd_s (rd_s h1 hx e1) (by omega) e2) (by omega) e5, e3, h3.op e4 a1 a2⟩
theorem OPP.fin {P : Int} (h : OPP T B Dk n f k ad kp) (hf : f < 3) (hx : x = n) : PDP (ui T x 59) (ui B (4 + f) P) Dk (n + 1) f 0 := by
  refine ⟨h.1.a hx (by decide), fun G => ?_⟩
  obtain ⟨s, h1, h2, h3⟩ := h.2 G
  obtain ⟨s', e1, e2, e3⟩ := st_end h2
  refine ⟨s', rd_s h1 hx e1, e2, ?_⟩
  have h4 := h3.b (x := P) hf
  unfold BKs at h4 ⊢
  rw [e3]; exact h4
theorem PDP.pad {c kd a b o l y1 y2 y3 y4 i j c3 : Int} (h : PDP T B Dk n f p) (hx : x = n) (h1 : y1 = x + 1) (h2 : y2 = x + 1 + 1) (h3 : y3 = x + 1 + 1 + 1) (h4 : y4 = x + 1 + 1 + 1 + 1) (hf : f < 3) (hi : i = 7 + 3 * f + p) (hj : j = 3 * f + p) (hc3 : c3 = 48 + b) (hp : 0 ≤ p ∧ p < 3) (hc : zKind c = kd) (hk : 0 ≤ kd) (hcr : 97 ≤ c ∧ c ≤ 117) (ha : 0 ≤ a ∧ a ≤ 9) (hb : a ≤ b ∧ b ≤ 9) (ho : 0 ≤ o ∧ o ≤ 4) (hl : 0 ≤ l ∧ l ≤ 9) :
    PDP (ui (ui (ui (ui (ui T x c) y1 (48 + a)) y2 c3) y3 (48 + o)) y4 (48 + l)) (ui B i x) (ui Dk j kd) (n + 1 + 1 + 1 + 1 + 1) f (p + 1) := by
  subst hi
  subst hj
  subst hc3
  refine ⟨((((h.1.a hx (by omega)).a (by omega) (by omega)).a (by omega) (by omega)).a (by omega) (by omega)).a (by omega) (by omega), fun G => ?_⟩
  obtain ⟨s, g1, g2, g3⟩ := h.2 G
  obtain ⟨a1, -, a2, a3⟩ := rd_pd h.1 g1 g2
  obtain ⟨s1, s2, s3, s4, s', e1, e2, e3, e4, e5, e6, e7, e8, e9, e10⟩ := st_pad g2 (by omega) hp hc hk (by omega) ha hb ho hl
  exact ⟨s', rd_s (rd_s (rd_s (rd_s (rd_s g1 hx e1) (by omega) e2) (by omega) e3) (by omega) e4) (by omega) e5, e6, g3.pad hf a1 hp a2 (hx.trans a3) e7 e8 e9 e10⟩
theorem PDP.nx {y i : Int} (h : PDP T B Dk n f p) (hB : B (4 + f) = p) (hx : x = n) (hf : f < 2) (hy : y = n + 1) (hi : i = 1 + ((f + 1 : Nat) : Int)) : OPP (ui T x 47) (ui B i y) Dk (n + 1) (f + 1) 0 0 0 := by
  subst hi
  have hl := h.1.a (c := 47) hx (by decide)
  refine ⟨hl, fun G => ?_⟩
  obtain ⟨s, h1, h2, h3⟩ := h.2 G
  obtain ⟨-, a1, a2, -⟩ := rd_pd h.1 h1 h2
  obtain ⟨s', e1, e2, e3, e4, e5⟩ := st_next h2 (by omega)
  have g1 := rd_s h1 hx e1
  have e2' : OP0 s' ((f + 1 : Nat) : Int) 0 0 0 := e2
  obtain ⟨-, -, b3⟩ := rd_op hl g1 e2'
  exact ⟨s', g1, e2, h3.nx hf a1 (hB.trans a2.symm) e3 e4 e5 (by rw [hy]; exact b3 rfl)⟩
theorem OPP.z (hB : B 1 = 0) (hD : ∀ i, 0 ≤ i → i < 9 → Dk i = 0) : OPP T B Dk 0 0 0 0 0 := by
  refine ⟨fun i a b => by omega, fun G => ⟨z0 G, rfl, ⟨rfl, rfl, rfl, rfl, rfl, rfl, rfl⟩, fun g hg => by omega, fun g hg => ⟨?_, fun q a b => ?_⟩, fun g q a b c d => ?_⟩⟩
  · have : g = 0 := by omega
    subst this
    exact hB
  · have : g = 0 := by omega
    subst this
    have b : q < 0 := b
    omega
  · rw [hD _ (by omega) (by omega)]
    by_cases e : g = 0
    · subst e
      rw [if_neg]
      intro z
      have z2 : q < 0 := z.2
      omega
    · rw [if_neg (fun z => by have z1 : g ≤ ((0 : Nat) : Int) := z.1; omega)]
end LG
