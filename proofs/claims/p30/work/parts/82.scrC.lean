section KV
variable {S : (Nat → Int32) × Nat} {t : qT} {D G : qD} {Q : Int → qT → qD → Prop} {k a : Nat} {f : Int} {op : Int → Int} {M n : Nat}
theorem c41r {o : Nat} {i : Int} (hp : PGr D G) (ho : o = 1) (hi : 0 ≤ i ∧ i < G 28 1) (q : Q (G 29 i) t D) : wp S 39 0 [some (qr o), some (qi i)] [] t D Q := by
  subst ho
  have h := hp.1
  have h2 := hp.2.1
  refine wp_cg (L := [some (qs 1), some (qi i)]) (st := []) rfl rfl (c41 (by omega) (by omega) ?_)
  rw [(hp.2.2 i hi.1 hi.2).1]; exact q
theorem c42r {o : Nat} {i : Int} (hp : PGr D G) (ho : o = 1) (hi : 0 ≤ i ∧ i < G 28 1) (q : Q (G 29 i - 48) t D) : wp S 40 0 [some (qr o), some (qi i)] [] t D Q := by
  subst ho
  have h := hp.1
  have h2 := hp.2.1
  refine wp_cg (L := [some (qs 1), some (qi i)]) (st := []) rfl rfl (b42_0 (c41 (by omega) (by omega) ?_))
  rw [(hp.2.2 i hi.1 hi.2).1]; exact q
theorem SN.cp {D' : qD} (h : SN D a k op f M n) (ha : ∀ i, 4 ≤ i → i ≠ 5 → D' a i = D a i) (hb : ∀ b, b ≠ a → D' b = D b) (hk : k + 5 < a) : SN D' a k op f M n := by
  unfold SN
  rw [ha 4 (by decide) (by decide), ha 6 (by decide) (by decide), ha 7 (by decide) (by decide), hb (a + 1) (by omega), hb (a + 2) (by omega), hb (k + 1) (by omega), hb (k + 2) (by omega), hb (k + 3) (by omega)]
  exact h
theorem c56 {p c : Int} (hO : SO t a k) (h14 : (t.1 1).1 = 4) (hp : PGr D G) (hV : OV op f M) (hn : n < M) (hS : SN D a k op f M n) (h5 : D a 5 = p) (hp0 : 0 ≤ p) (hc : op (24 * f + 3 * n) = c) (hlen : p + zDig c + 1 < G 28 1) (hg0 : G 29 p = c) (hg : ∀ x, 1 ≤ x → x ≤ zDig c → G 29 (p + x) = 48 + op (24 * f + 3 * n + x))
    (q : ∀ D', SN D' a k op f M (n + 1) → D' a 5 = p + 1 + zDig c → FRS D D' a k f → D' (k + 5) = D (k + 5) → Q 0 t D') : wp S 54 0 [some (qr a), some (qi f), none, none] [] t D Q := by
  have hO' := hO
  obtain ⟨⟨o1, o2, o3, o4, o5⟩, ⟨o6, o7⟩, o8, ⟨o9, o10, o11, o12, o13⟩, o14, o15⟩ := hO
  have hS' := hS
  obtain ⟨⟨s1, s2, s3⟩, s4, s5, s6, s7, s8⟩ := hS
  have hf := hV.1
  have hM8 := hV.2.1
  have hd := hV.d n (by omega)
  have hd1 := hV.d (n + 1) (by omega)
  have hv := (hV.2.2 n hn).1
  have hz := zDig_r c
  have hsv := svN_r op f n
  have ea : adN op f (n + 1) = adN op f n + if op (24 * f + 3 * n) = 43 then op (24 * f + 3 * n + 1) else 0 := rfl
  have ec : cA op f (n + 1) = if op (24 * f + 3 * n) = 43 then cA op f n else adN op f n := rfl
  have es : svN op f (n + 1) = svN op f n + if op (24 * f + 3 * n) = 115 then 1 else 0 := rfl
  have eR : sR op f (n + 1) = oSt op (24 * f + 3 * n) (sR op f n) := rfl
  unfold opV at hv
  unfold oSt at eR
  rw [hc] at hv ea ec es eR
  have h4 : (t.1 (t.2.1 a 0)).1 = 4 := by rw [o2]; exact h14
  refine b56_0 (chk_i o1 (chk_i o1 (chk_i h4 ?_)))
  rw [h5]
  refine c41r hp o2 (by omega) (chk_i o1 (chk_i o1 (chk_i h4 ?_)))
  rw [h5]
  refine c42r hp o2 (by omega) ?_
  rw [hg0]
  refine chk_i (by omega) (ite_i (fun c43 => ?_) fun c43 => chk_i o1 (chk_i o1 (chk_i (by omega) (ite_i (fun c115 => ?_) fun c115 => chk_i (by omega) (ite_i (fun c117 => ?_) fun c117 => ?_)))))
  · have z1 : zDig c = 1 := by rw [c43]; rfl
    rw [if_pos c43] at ea ec
    rw [if_neg (by omega), Int.add_zero] at es
    rw [if_neg (by omega), if_neg (by omega), if_neg (by omega), if_neg (by omega)] at eR
    rw [hg 1 (by omega) (by omega)]
    refine chk_i o1 (chk_i o1 (c60 (lo := adN op f n) hO' hf s2 (by omega) fun D' g1 g2 g3 g4 => chk_i o1 (chk_i o1 ?_)))
    have e5 : D' a 5 = p := by rw [g2 5 (by decide), h5]
    refine q _ ?_ (by rw [up_eq, upr_s, ui_s, e5, z1]; omega) ?_ (by rw [up_eq, upr_n (by omega), g1 (k + 5) (by omega) (by omega)])
    · refine SN.cp (D := D') ?_ (fun i _ h => by rw [up_eq, upr_s, ui_n h]) (fun b hb => by rw [up_eq, upr_n hb]) o15
      unfold SN
      rw [ea, ec, es, eR, g2 4 (by decide), g3, g2 7 (by decide), g1 (a + 1) (by omega) (by omega), g1 (a + 2) (by omega) (by omega), g1 (k + 3) (by omega) (by omega), g1 (k + 2) (by omega) (by omega)]
      refine ⟨⟨s1, by rw [s2]; omega, s3⟩, s4, s5, fun x x0 x1 => ?_, s7, fun j hj h115 => ?_⟩
      · by_cases cx : x < adN op f n
        · have := s6 x x0 cx
          obtain ⟨m, m1, m2, m3, m4, m5, m6⟩ := this
          refine ⟨m, m1, m2, m3, fun w w0 w1 => ?_, ?_, ?_⟩
          · exact (g4 x w w0 (by omega)).trans ((if_neg (by omega)).trans (m4 w w0 w1))
          · rw [g4 x 4 (by decide) (by decide), if_neg (by omega)]; exact m5
          · rw [g4 x 5 (by decide) (by decide), if_neg (by omega)]; exact m6
        · refine ⟨n, by omega, by omega, .inr ⟨by rw [hc]; exact c43, by rw [ea]; omega⟩, fun w w0 w1 => ?_, ?_, ?_⟩
          · refine (g4 x w w0 (by omega)).trans ((if_pos (by rw [s2]; omega)).trans ?_)
            unfold rowV
            rw [if_pos w1]; exact s4 w w0 w1
          · rw [g4 x 4 (by decide) (by decide), if_pos (by rw [s2]; omega)]; exact s1
          · rw [g4 x 5 (by decide) (by decide), if_pos (by rw [s2]; omega)]; exact s3
      · by_cases cj : j = n
        · rw [cj, hc] at h115; omega
        · exact s8 j (by omega) h115
    · have e2 : ∀ b, b ≠ a → up D' a 5 (D' a 5 + 2) b = D' b := fun b hb => by rw [up_eq, upr_n hb]
      refine ⟨fun b x1 x2 x3 x4 x5 x6 x7 x8 => by rw [e2 b x1]; exact g1 b x4 x1, fun i hi => ?_, fun i hi => ?_, fun i hi => ⟨?_, ?_⟩, fun i hi => ?_⟩
      · rw [e2 _ (by omega)]
        have := g4 (i / 6 - f * 10) (i % 6) (by omega) (by omega)
        rw [show (f * 10 + (i / 6 - f * 10)) * 6 + i % 6 = i by omega, if_neg (by omega)] at this
        exact this
      · rw [e2 _ (by omega), g1 _ (by omega) (by omega)]
      · rw [e2 _ (by omega), g1 _ (by omega) (by omega)]
      · rw [e2 _ (by omega), g1 _ (by omega) (by omega)]
      · rw [e2 _ (by omega), g1 _ (by omega) (by omega)]
  · have z2 : zDig c = 2 := by rw [c115]; rfl
    rw [if_neg c43, Int.add_zero] at ea
    rw [if_neg c43] at ec
    rw [if_pos c115] at es
    rw [if_neg (by omega), if_neg (by omega), if_pos c115] at eR
    have hv' : 0 ≤ op (24 * f + 3 * n + 1) ∧ op (24 * f + 3 * n + 1) ≤ 3 ∧ 0 ≤ op (24 * f + 3 * n + 2) ∧ op (24 * f + 3 * n + 2) ≤ 5 := by omega
    have d1 : ∀ b, b ≠ a → up D a 7 (D a 6) b = D b := fun b hb => by rw [up_eq, upr_n hb]
    have d2 : ∀ i, i ≠ 7 → up D a 7 (D a 6) a i = D a i := fun i hi => by rw [up_eq, upr_s, ui_n hi]
    have d3 : up D a 7 (D a 6) a 7 = adN op f n := by rw [up_eq, upr_s, ui_s, s2]
    generalize up D a 7 (D a 6) = D1 at d1 d2 d3 ⊢
    have hp1 : PGr D1 G := hp.of (d1 1 (by omega)) (d1 2 (by omega))
    refine chk_i o1 (chk_i o1 (chk_i h4 ?_))
    rw [d2 5 (by decide), h5]
    refine c42r hp1 o2 (by omega) (chk_i o1 ?_)
    rw [hg 1 (by omega) (by omega), hg 2 (by omega) (by omega), show 48 + op (24 * f + 3 * n + 1) - 48 = op (24 * f + 3 * n + 1) by omega, show 48 + op (24 * f + 3 * n + 2) - 48 = op (24 * f + 3 * n + 2) by omega]
    generalize hr : op (24 * f + 3 * n + 1) = r at hv' eR
    generalize hcl : op (24 * f + 3 * n + 2) = cl at hv' eR
    refine b57_0 (c102 (by omega) (by omega) (tf1 (fun _ => c102 (by omega) (by omega) (tf1 (fun _ => ?_) fun z => absurd z (by omega))) fun z => absurd z (by omega)))
    rw [o4, o3]
    have u6 : up D1 (a + 1) r cl a 6 = adN op f n := by rw [up_eq, upr_n (by omega), d2 6 (by decide), s2]
    have u1 : ∀ b, b ≠ a + 1 → up D1 (a + 1) r cl b = D1 b := fun b hb => by rw [up_eq, upr_n hb]
    have u2 : up D1 (a + 1) r cl (a + 1) = ui (D (a + 1)) r cl := by rw [up_eq, upr_s, d1 (a + 1) (by omega)]
    rw [u6]
    generalize up D1 (a + 1) r cl = D2 at u6 u1 u2 ⊢
    refine chk_i o1 (chk_i (by rw [o6]) (chk_i (by rw [o6]; exact ⟨by omega, show r < 4 by omega⟩) (chk_i o1 (chk_i o1 (chk_i o8.1.1 (c11 (sv := svN op f n) hO' hf (by rw [u1 _ (by omega), d1 _ (by omega)]; exact s7) (by omega) (chk_i o1 (chk_i o1 ?_))))))))
    generalize hD5 : up (up (up (up D2 (k + 2) ((f * 8 + svN op f n) * 3) (adN op f n)) (k + 2) ((f * 8 + svN op f n) * 3 + 1) r) (k + 2) ((f * 8 + svN op f n) * 3 + 2) cl) (k + 3) f (svN op f n + 1) = D5
    have f1 : ∀ b, b ≠ k + 2 → b ≠ k + 3 → D5 b = D2 b := fun b h2 h3 => by rw [← hD5, up_eq, up_eq, up_eq, up_eq, upr_n h3, upr_n h2, upr_n h2, upr_n h2]
    have f2 : D5 (k + 2) = ui (ui (ui (D (k + 2)) ((f * 8 + svN op f n) * 3) (adN op f n)) ((f * 8 + svN op f n) * 3 + 1) r) ((f * 8 + svN op f n) * 3 + 2) cl := by rw [← hD5, up_eq, up_eq, up_eq, up_eq, upr_n (by omega), upr_s, upr_s, upr_s, u1 _ (by omega), d1 _ (by omega)]
    have f3 : D5 (k + 3) = ui (D (k + 3)) f (svN op f n + 1) := by rw [← hD5, up_eq, upr_s, up_eq, up_eq, up_eq, upr_n (by omega), upr_n (by omega), upr_n (by omega), u1 _ (by omega), d1 _ (by omega)]
    clear hD5
    have fn : ∀ b, b ≠ k + 2 → b ≠ k + 3 → b ≠ a → b ≠ a + 1 → D5 b = D b := fun b h2 h3 h4 h6 => by rw [f1 b h2 h3, u1 b h6, d1 b h4]
    have fa : ∀ i, i ≠ 7 → D5 a i = D a i := fun i hi => by rw [f1 a (by omega) (by omega), u1 a (by omega), d2 i hi]
    have fa7 : D5 a 7 = adN op f n := by rw [f1 a (by omega) (by omega), u1 a (by omega), d3]
    have f9 : D5 (a + 1) = ui (D (a + 1)) r cl := by rw [f1 (a + 1) (by omega) (by omega), u2]
    have e5 : D5 a 5 = p := by rw [fa 5 (by decide), h5]
    have eR1 : ∀ i, (sR op f (n + 1)).1 i = ui (sR op f n).1 r cl i := fun i => by rw [eR]
    have eR2 : (sR op f (n + 1)).2 = (sR op f n).2 := by rw [eR]
    refine q _ ?_ (by rw [up_eq, upr_s, ui_s, e5, z2]; omega) ?_ (by rw [up_eq, upr_n (by omega), fn (k + 5) (by omega) (by omega) (by omega) (by omega)])
    · refine SN.cp (D := D5) ?_ (fun i _ h => by rw [up_eq, upr_s, ui_n h]) (fun b hb => by rw [up_eq, upr_n hb]) o15
      unfold SN
      rw [ea, ec, es, eR2, fa 4 (by decide), fa 6 (by decide), fa7, fn (a + 2) (by omega) (by omega) (by omega) (by omega), fn (k + 1) (by omega) (by omega) (by omega) (by omega), f9, f3, f2, ui_s]
      refine ⟨⟨s1, s2, rfl⟩, fun w w0 w1 => ?_, fun i i0 i1 => ?_, s6, rfl, fun j hj h115 => ?_⟩
      · rw [eR1]
        by_cases cw : w = r
        · rw [cw, ui_s, ui_s]
        · rw [ui_n cw, ui_n cw]; exact s4 w w0 w1
      · rw [eR1, ui_n (by omega)]; exact s5 i i0 i1
      · by_cases cj : j = n
        · subst cj
          refine ⟨?_, ?_, ?_⟩
          · rw [ui_n (by omega), ui_n (by omega), ui_s]
          · rw [ui_n (by omega), ui_s]; exact hr.symm
          · rw [ui_s]; exact hcl.symm
        · have hm := svN_m op f n (j + 1) (by omega)
          have ej : svN op f (j + 1) = svN op f j + if op (24 * f + 3 * j) = 115 then 1 else 0 := rfl
          rw [if_pos h115] at ej
          rw [ui_n (by omega), ui_n (by omega), ui_n (by omega), ui_n (by omega), ui_n (by omega), ui_n (by omega), ui_n (by omega), ui_n (by omega), ui_n (by omega)]
          exact s8 j (by omega) h115
    · have e2 : ∀ b, b ≠ a → up D5 a 5 (D5 a 5 + 3) b = D5 b := fun b hb => by rw [up_eq, upr_n hb]
      refine ⟨fun b x1 x2 x3 x4 x5 x6 x7 x8 => by rw [e2 b x1]; exact fn b x5 x6 x1 x2, fun i hi => ?_, fun i hi => ?_, fun i hi => ⟨?_, ?_⟩, fun i hi => ?_⟩
      · rw [e2 _ (by omega), fn _ (by omega) (by omega) (by omega) (by omega)]
      · rw [e2 _ (by omega), f2, ui_n (by omega), ui_n (by omega), ui_n (by omega)]
      · rw [e2 _ (by omega), f3, ui_n hi]
      · rw [e2 _ (by omega), fn _ (by omega) (by omega) (by omega) (by omega)]
      · rw [e2 _ (by omega), fn _ (by omega) (by omega) (by omega) (by omega)]
  · have z1 : zDig c = 1 := by rw [c117]; rfl
    rw [if_neg (by omega), if_neg (by omega), if_neg (by omega), if_pos c117] at eR
    have d1 : ∀ b, b ≠ a → up D a 7 (D a 6) b = D b := fun b hb => by rw [up_eq, upr_n hb]
    have d2 : ∀ i, i ≠ 7 → up D a 7 (D a 6) a i = D a i := fun i hi => by rw [up_eq, upr_s, ui_n hi]
    have d3 : up D a 7 (D a 6) a 7 = D a 6 := by rw [up_eq, upr_s, ui_s]
    generalize up D a 7 (D a 6) = D1 at d1 d2 d3 ⊢
    rw [hg 1 (by omega) (by omega), show 48 + op (24 * f + 3 * n + 1) - 48 = op (24 * f + 3 * n + 1) by omega]
    have hv' : 0 ≤ op (24 * f + 3 * n + 1) ∧ op (24 * f + 3 * n + 1) ≤ 3 := by omega
    generalize op (24 * f + 3 * n + 1) = r at hv' eR
    refine chk_i o1 (b58_0 (c102 (by omega) (by omega) (tf1 (fun _ => ?_) fun z => absurd z (by omega))))
    rw [o4]
    refine chk_i o1 (chk_i (by rw [o6]) (chk_i (by rw [o6]; exact ⟨by omega, show r < 4 by omega⟩) (chk_i o1 (chk_i o1 ?_))))
    have u1 : ∀ b, b ≠ a + 1 → up D1 (a + 1) r (-1) b = D1 b := fun b hb => by rw [up_eq, upr_n hb]
    have u2 : up D1 (a + 1) r (-1) (a + 1) = ui (D (a + 1)) r (-1) := by rw [up_eq, upr_s, d1 (a + 1) (by omega)]
    generalize up D1 (a + 1) r (-1) = D2 at u1 u2 ⊢
    have e5 : D2 a 5 = p := by rw [u1 a (by omega), d2 5 (by decide), h5]
    have eR1 : ∀ i, (sR op f (n + 1)).1 i = ui (sR op f n).1 r (-1) i := fun i => by rw [eR]
    have eR2 : (sR op f (n + 1)).2 = (sR op f n).2 := by rw [eR]
    have e2 : ∀ b, b ≠ a → up D2 a 5 (D2 a 5 + 2) b = D2 b := fun b hb => by rw [up_eq, upr_n hb]
    refine q _ ?_ (by rw [up_eq, upr_s, ui_s, e5, z1]; omega) (FRS.low (fun b b1 b2 b3 => by rw [e2 b b1, u1 b b2, d1 b b1]) o15) (by rw [e2 (k + 5) (by omega), u1 (k + 5) (by omega), d1 (k + 5) (by omega)])
    refine SN.cp (D := D2) ?_ (fun i _ h => by rw [up_eq, upr_s, ui_n h]) e2 o15
    refine SN.nx hV hn hS' o15 (by rw [hc]; exact c43) (by rw [hc]; exact c115) (fun b b1 b2 b3 => by rw [u1 b b2, d1 b b1]) (by rw [eR2, u1 a (by omega), d2 4 (by decide)]; exact s1) (by rw [u1 a (by omega), d2 6 (by decide)]) (by rw [u1 a (by omega), d3]) (fun w w0 w1 => ?_) fun i i0 i1 => ?_
    · rw [u2, eR1]
      by_cases cw : w = r
      · rw [cw, ui_s, ui_s]
      · rw [ui_n cw, ui_n cw]; exact s4 w w0 w1
    · rw [eR2] at i1
      rw [u1 (a + 2) (by omega), d1 (a + 2) (by omega), eR1, ui_n (by omega)]; exact s5 i i0 i1
  · have d1 : ∀ b, b ≠ a → up D a 7 (D a 6) b = D b := fun b hb => by rw [up_eq, upr_n hb]
    have d2 : ∀ i, i ≠ 7 → up D a 7 (D a 6) a i = D a i := fun i hi => by rw [up_eq, upr_s, ui_n hi]
    have d3 : up D a 7 (D a 6) a 7 = D a 6 := by rw [up_eq, upr_s, ui_s]
    generalize up D a 7 (D a 6) = D1 at d1 d2 d3 ⊢
    have hcc : c = 109 ∨ c = 98 := by omega
    rcases hcc with c109 | c98
    · have z0 : zDig c = 0 := by rw [c109]; rfl
      rw [if_neg (by omega), if_pos c109] at eR
      rw [eR] at hd1
      have hd1 : (0 ≤ (sR op f n).2 + 1 ∧ (sR op f n).2 + 1 ≤ 3) ∧ _ := hd1
      rw [c109]
      refine chk_i o1 (c59m (d := (sR op f n).2) hO' (by rw [d2 4 (by decide)]; exact s1) (by omega) fun D2 g1 g2 g3 g4 => chk_i o1 (chk_i o1 ?_))
      have e5 : D2 a 5 = p := by rw [g2 5 (by decide), d2 5 (by decide), h5]
      have e2 : ∀ b, b ≠ a → up D2 a 5 (D2 a 5 + 1) b = D2 b := fun b hb => by rw [up_eq, upr_n hb]
      refine q _ ?_ (by rw [up_eq, upr_s, ui_s, e5, z0]; omega) (FRS.low (fun b b1 b2 b3 => by rw [e2 b b1, g1 b b1 b3, d1 b b1]) o15) (by rw [e2 (k + 5) (by omega), g1 (k + 5) (by omega) (by omega), d1 (k + 5) (by omega)])
      refine SN.cp (D := D2) ?_ (fun i _ h => by rw [up_eq, upr_s, ui_n h]) e2 o15
      refine SN.nx hV hn hS' o15 (by rw [hc]; exact c43) (by rw [hc]; exact c115) (fun b b1 b2 b3 => by rw [g1 b b1 b3, d1 b b1]) (by rw [eR, g3]) (by rw [g2 6 (by decide), d2 6 (by decide)]) (by rw [g2 7 (by decide), d3]) (fun w w0 w1 => ?_) fun i i0 i1 => ?_
      · rw [g1 (a + 1) (by omega) (by omega), d1 (a + 1) (by omega), eR]
        exact (s4 w w0 w1).trans (if_neg (by omega)).symm
      · rw [eR] at i1 ⊢
        have i1 : i < 4 * ((sR op f n).2 + 1) := i1
        rw [g4, d1 (a + 1) (by omega), d1 (a + 2) (by omega)]
        dsimp only
        by_cases ci : 4 * (sR op f n).2 ≤ i ∧ i < 4 * (sR op f n).2 + 4
        · rw [if_pos ci, if_pos (by omega), show 4 + i - 4 * ((sR op f n).2 + 1) = i - 4 * (sR op f n).2 by omega]
          exact s4 _ (by omega) (by omega)
        · rw [if_neg ci, if_neg (by omega)]
          exact s5 i i0 (by omega)
    · have z0 : zDig c = 0 := by rw [c98]; rfl
      rw [if_pos c98] at eR
      rw [eR] at hd1
      have hd1 : (0 ≤ (sR op f n).2 - 1 ∧ (sR op f n).2 - 1 ≤ 3) ∧ _ := hd1
      rw [c98]
      refine chk_i o1 (c59b (d := (sR op f n).2) hO' (by rw [d2 4 (by decide)]; exact s1) (by omega) fun D2 g1 g2 g3 g4 => chk_i o1 (chk_i o1 ?_))
      have e5 : D2 a 5 = p := by rw [g2 5 (by decide), d2 5 (by decide), h5]
      have e2 : ∀ b, b ≠ a → up D2 a 5 (D2 a 5 + 1) b = D2 b := fun b hb => by rw [up_eq, upr_n hb]
      refine q _ ?_ (by rw [up_eq, upr_s, ui_s, e5, z0]; omega) (FRS.low (fun b b1 b2 b3 => by rw [e2 b b1, g1 b b1 b2, d1 b b1]) o15) (by rw [e2 (k + 5) (by omega), g1 (k + 5) (by omega) (by omega), d1 (k + 5) (by omega)])
      refine SN.cp (D := D2) ?_ (fun i _ h => by rw [up_eq, upr_s, ui_n h]) e2 o15
      refine SN.nx hV hn hS' o15 (by rw [hc]; exact c43) (by rw [hc]; exact c115) (fun b b1 b2 b3 => by rw [g1 b b1 b2, d1 b b1]) (by rw [eR, g3]) (by rw [g2 6 (by decide), d2 6 (by decide)]) (by rw [g2 7 (by decide), d3]) (fun w w0 w1 => ?_) fun i i0 i1 => ?_
      · rw [g4 w w0 w1, d1 (a + 2) (by omega), s5 _ (by omega) (by omega), eR]
        dsimp only
        rw [if_pos ⟨w0, w1⟩, show 4 + (4 * ((sR op f n).2 - 1) + w) = 4 * (sR op f n).2 + w by omega]
      · rw [eR] at i1 ⊢
        have i1 : i < 4 * ((sR op f n).2 - 1) := i1
        rw [g1 (a + 2) (by omega) (by omega), d1 (a + 2) (by omega)]
        dsimp only
        rw [if_neg (by omega), if_neg (by omega)]
        exact s5 i i0 (by omega)
end KV
