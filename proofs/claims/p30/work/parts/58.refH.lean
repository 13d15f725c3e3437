/-! ## the reference: search, loose, image, restore, digest -/
def vSea (D : qD) (ty w : Int) : Int := if (sCat (D 38) (D 40) (D 42) ty).1 = -1 then -1 else if w = 0 then (sCat (D 38) (D 40) (D 42) ty).1 else if w = 1 then (sCat (D 38) (D 40) (D 42) ty).2.1 else (sCat (D 38) (D 40) (D 42) ty).2.2
def vSearch (D : qD) (ty w : Int) : Int := if ¬ (0 ≤ ty ∧ ty ≤ 4) then -102 else if ¬ (0 ≤ w ∧ w ≤ 2) then -102 else if D 28 14 = 0 then -103 else vSea D ty w
def sLo (D : qD) : Nat → Int → Int → Int
  | 0, _, b => b
  | k + 1, ty, b => sLo D k (ty + 1) (if (sCat (D 38) (D 40) (D 42) ty).1 = -1 then qor b (qshl 1 ty) else b)
def vLoose (D : qD) : Int := if D 28 14 = 0 then -103 else sLo D 5 0 0
def pImage (D : qD) : Int × qD := if D 28 14 = 0 then (-103, D) else (D 42 13, upr (upr (upr (upr D 46 (cpf (D 46) (D 42) 0 110)) 47 (cpf (D 47) (D 43) 0 3300)) 48 (cpf (D 48) (D 44) 0 24)) 28 (ui (ui (ui (D 28) 36 (D 28 27)) 37 (D 28 31)) 35 (D 28 15)))
def pRestore (D : qD) : Int × qD := if ¬ D 28 35 = D 28 15 then (-103, D) else (D 46 13, upr (upr (upr (upr D 42 (cpf (D 42) (D 46) 0 110)) 43 (cpf (D 43) (D 47) 0 3300)) 44 (cpf (D 44) (D 48) 0 24)) 28 (ui (ui (D 28) 27 (D 28 36)) 31 (D 28 37)))
def hs (v : Int → Int) : Nat → Int → Int → Int
  | 0, _, h => h
  | k + 1, i, h => hs v k (i + 1) (31 * h + v i)
def hPads (D : qD) (f : Int) : Nat → Int → Int → Int
  | 0, _, h => h
  | k + 1, p, h => if p < D 38 f then hPads D f k (p + 1) (hs (vTellPad D f p) 7 0 h) else h
def hFs (D : qD) : Nat → Int → Int → Int
  | 0, _, h => h
  | k + 1, f, h => if f < D 28 14 then hFs D k (f + 1) (hPads D f 3 0 (hs (fun i => vTellRow D f (i / 6) (i % 6)) 60 0 h)) else h
def hFr (D : qD) : Nat → Int → Int → Int
  | 0, _, h => h
  | k + 1, n, h => if n < D 42 13 then hFr D k (n + 1) (hs (vTellFrame D n) 12 0 h) else h
def hTx (D : qD) (h : Int) : Int := 31 * hs (fun i => vSea D (i / 3) (i % 3)) 15 0 h + sLo D 5 0 0
def hA (D : qD) : Int := hs (fun r => D 42 (9 + r)) 4 0 (hFr D 8 0 (hFs D 3 0 1399))
def hB (D : qD) : Int := 31 * (if D 28 14 = 0 then hA D else hTx D (hA D)) + D 42 78
def vDigest (D : qD) : Int := hs (vCount D) 8 0 (hs (D 29) (D 28 1).toNat 0 (hs (fun i => D 42 (79 + i)) (D 42 78).toNat 0 (hB D)))
def QH (D E : qD) (h : Int) : Prop := (∀ a, a ≠ 28 → E a = D a) ∧ (∀ i, i ≠ 28 → i ≠ 29 → i ≠ 30 → i ≠ 41 → E 28 i = D 28 i) ∧ E 28 41 = h
section RH
variable {S : (Nat → Int32) × Nat} {t : qT} {D : qD} {Q : Int → qT → qD → Prop}
theorem vSea_R (hV : RVd (D 28 14) (D 42)) (ty w : Int) : qR (vSea D ty w) := by
  have hr := sCat_r (D 38) (D 40) (D 42) ty
  have := hV.1
  unfold vSea
  (repeat' split) <;> omega
theorem QH.upd {E : qD} {h x : Int} (q : QH D E h) : QH D (up E 28 41 x) x := by
  obtain ⟨q1, q2, q3⟩ := q
  rw [up_eq]
  refine ⟨fun a ha => (upr_n ha).trans (q1 a ha), fun i a b c d => ?_, ?_⟩
  · rw [upr_s, ui_n d]; exact q2 i a b c d
  · rw [upr_s, ui_s]
theorem QH.q28 {E : qD} {h c p f : Int} (q : QH D E h) : QH D (upr E 28 (s28 (E 28) c p f)) h := by
  obtain ⟨q1, q2, q3⟩ := q
  refine ⟨fun a ha => (upr_n ha).trans (q1 a ha), fun i a b c d => ?_, ?_⟩
  · rw [upr_s]; unfold s28; rw [if_neg a, if_neg b, if_neg c]; exact q2 i a b c d
  · rw [upr_s]; exact q3
theorem CVd.qh {E : qD} {h : Int} (hC : CVd D) (q : QH D E h) : CVd E := hC.sc ⟨q.2.1 14 (by decide) (by decide) (by decide) (by decide), q.1 _ (by decide), q.1 _ (by decide), q.1 _ (by decide), q.1 _ (by decide), q.1 _ (by decide), q.1 _ (by decide), q.1 _ (by decide)⟩
theorem QH.e {E : qD} {h : Int} (q : QH D E h) : E 28 14 = D 28 14 ∧ E 28 27 = D 28 27 ∧ E 28 31 = D 28 31 ∧ E 28 1 = D 28 1 ∧ E 28 15 = D 28 15 :=
  ⟨q.2.1 14 (by decide) (by decide) (by decide) (by decide), q.2.1 27 (by decide) (by decide) (by decide) (by decide), q.2.1 31 (by decide) (by decide) (by decide) (by decide), q.2.1 1 (by decide) (by decide) (by decide) (by decide), q.2.1 15 (by decide) (by decide) (by decide) (by decide)⟩
theorem RVs.qh {E : qD} {h : Int} (r : RVs D) (q : QH D E h) : RVs E := by
  obtain ⟨e1, e2, e3, e4, e5⟩ := q.e
  refine ⟨r.1.qh q, ?_⟩
  rw [e1, e2, e3, e4, e5, q.1 42 (by decide), q.1 44 (by decide), q.1 29 (by decide)]
  exact r.2
theorem QH.row {E : qD} {h : Int} (q : QH D E h) : vTellRow E = vTellRow D := by
  funext f b w; unfold vTellRow; rw [q.1 34 (by decide), q.1 35 (by decide), q.1 36 (by decide)]
theorem QH.pad {E : qD} {h : Int} (q : QH D E h) : vTellPad E = vTellPad D := by
  funext f p w; unfold vTellPad vAsk vSorts; rw [q.1 42 (by decide), q.1 40 (by decide), q.1 44 (by decide), q.e.2.2.1]
theorem QH.frame {E : qD} {h : Int} (q : QH D E h) : vTellFrame E = vTellFrame D := by
  funext n w; unfold vTellFrame; rw [q.1 42 (by decide), q.1 34 (by decide)]
theorem QH.sea {E : qD} {h : Int} (q : QH D E h) : vSea E = vSea D := by
  funext n w; unfold vSea; rw [q.1 42 (by decide), q.1 38 (by decide), q.1 40 (by decide)]
theorem QH.lo {E : qD} {h : Int} (q : QH D E h) : ∀ (m : Nat) (ty b : Int), sLo E m ty b = sLo D m ty b := by
  intro m
  induction m with
  | zero => intro ty b; rfl
  | succ m ih => intro ty b; unfold sLo; rw [q.1 42 (by decide), q.1 38 (by decide), q.1 40 (by decide)]; exact ih _ _
theorem QH.count {E : qD} {h : Int} (q : QH D E h) : vCount E = vCount D := by
  obtain ⟨e1, e2, e3, e4, e5⟩ := q.e
  funext w; unfold vCount; rw [e1, e2, e3, e4, e5, q.1 38 (by decide), q.1 42 (by decide), q.1 34 (by decide)]
theorem vTellRow_R (hC : CVd D) {f b w : Int} (hf : 0 ≤ f ∧ f < D 28 14) (hb : 0 ≤ b ∧ b ≤ 9) (hw : 0 ≤ w ∧ w ≤ 5) : qR (vTellRow D f b w) := by
  have h1 := hC.1
  unfold vTellRow
  split
  · have := hC.2.2.2.2.1 (10 * f + b) (by omega) (by omega); omega
  · split
    · have := hC.2.2.2.2.1 (10 * f + b) (by omega) (by omega); omega
    · have := hC.2.2.2.1 (40 * f + 4 * b + w) (by omega) (by omega); omega
theorem vTellPad_R (hC : CVd D) (hV : RVd (D 28 14) (D 42)) {f p w : Int} (hf : 0 ≤ f ∧ f < D 28 14) (hp : 0 ≤ p ∧ p < D 38 f) : qR (vTellPad D f p w) := by
  have h1 := hC.1
  have h2 := hC.2.1 f hf.1 hf.2
  have h3 := hC.2.2.2.2.2 f p hf.1 hf.2 hp.1 hp.2
  unfold vTellPad
  split
  · exact hV.2.2.2.2 _ (by omega) (by omega)
  · split
    · have : w = 1 ∨ w = 2 ∨ w = 3 ∨ w = 4 := by omega
      rcases this with rfl | rfl | rfl | rfl <;> omega
    · split
      · exact vSorts_R
      · split
        · have := sBst_r (bits := vSorts D f p) (own := D 40 (15 * f + 5 * p + 3)) 5 0 (-1) 6 (by omega) (by omega)
          unfold vAsk
          omega
        · omega
theorem QH.sq {E : qD} {h : Int} (q : QH D E h) : SQ D E :=
  ⟨fun a h1 _ _ _ _ _ _ => q.1 a h1, q.e.2.2.2.1, q.e.1, q.e.2.2.2.2, q.e.2.1, q.e.2.2.1, q.2.1 35 (by decide) (by decide) (by decide) (by decide), q.2.1 36 (by decide) (by decide) (by decide) (by decide), q.2.1 37 (by decide) (by decide) (by decide) (by decide)⟩
end RH
