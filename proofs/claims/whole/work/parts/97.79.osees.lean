/-! Own rows: sees on both sides. -/
theorem kept_OK {o : Option ((Nat → Nat) × Nat)} {k nb : Nat} {ks ks2 res res2 ks' ks2' : Int32} {b0 a0 b2 a2 b' a' b2' a2' : Nat → Int32} (hk : I_kept ks b0 a0 ks2 b2 a2) (hnb : nb ≤ 8) (h1 : OutOK o k nb ks b0 a0 res ks' b' a') (h2 : OutOK o k nb ks2 b2 a2 res2 ks2' b2' a2') : res = res2 ∧ I_kept ks' b' a' ks2' b2' a2' := by
  cases o with
  | none =>
    obtain ⟨rfl, rfl, rfl, rfl⟩ := h1
    obtain ⟨rfl, rfl, rfl, rfl⟩ := h2
    exact ⟨rfl, hk⟩
  | some z =>
    obtain ⟨rfl, rfl, e1⟩ := h1
    obtain ⟨rfl, rfl, e2⟩ := h2
    exact ⟨rfl, nb, hnb, rfl, rfl, fun j hj => ⟨by rw [(e1 j hj).1, (e2 j hj).1], by rw [(e1 j hj).2, (e2 j hj).2]⟩⟩
theorem kept_B {o : Option ((Nat → Nat) × Nat × Nat)} {nb : Nat} {ks ks2 res res2 ks' ks2' : Int32} {b0 a0 b2 a2 b' a' b2' a2' : Nat → Int32} (hk : I_kept ks b0 a0 ks2 b2 a2) (hnb : nb ≤ 8) (h1 : OutB o nb ks b0 a0 res ks' b' a') (h2 : OutB o nb ks2 b2 a2 res2 ks2' b2' a2') : res = res2 ∧ I_kept ks' b' a' ks2' b2' a2' := by
  cases o with
  | none =>
    obtain ⟨rfl, rfl, rfl, rfl⟩ := h1
    obtain ⟨rfl, rfl, rfl, rfl⟩ := h2
    exact ⟨rfl, hk⟩
  | some z =>
    obtain ⟨rfl, rfl, e1⟩ := h1
    obtain ⟨rfl, rfl, e2⟩ := h2
    exact ⟨rfl, nb, hnb, rfl, rfl, fun j hj => ⟨by rw [(e1 j hj).1, (e2 j hj).1], by rw [(e1 j hj).2, (e2 j hj).2]⟩⟩
theorem kept_Y {o : Option (Nat × Nat)} {slip g nb : Nat} {ks ks2 res res2 ks' ks2' : Int32} {b0 a0 b2 a2 b' a' b2' a2' : Nat → Int32} (hk : I_kept ks b0 a0 ks2 b2 a2) (hnb : nb ≤ 8) (h1 : OutY o slip g nb ks b0 a0 res ks' b' a') (h2 : OutY o slip g nb ks2 b2 a2 res2 ks2' b2' a2') : res = res2 ∧ I_kept ks' b' a' ks2' b2' a2' := by
  cases o with
  | none =>
    obtain ⟨rfl, rfl, rfl, rfl⟩ := h1
    obtain ⟨rfl, rfl, rfl, rfl⟩ := h2
    exact ⟨rfl, hk⟩
  | some z =>
    obtain ⟨rfl, rfl, e1⟩ := h1
    obtain ⟨rfl, rfl, e2⟩ := h2
    exact ⟨rfl, nb, hnb, rfl, rfl, fun j hj => ⟨by rw [(e1 j hj).1, (e2 j hj).1], by rw [(e1 j hj).2, (e2 j hj).2]⟩⟩
section OS
variable {ro : RF} {c c2 : Int32} {kd mo bi tu : Nat → Int32} {po be fi : Nat → Int64} {lo wo wt ce : Nat → Int32}
set_option maxHeartbeats 4000000 in
theorem o_sees {n : Nat} (hn : 10000 < n) (h : I_sums ro c c2 kd mo bi tu po be fi lo wo wt ce) {ks ks2 : Int32} {b0 a0 b2 a2 : Nat → Int32} (hk : I_kept ks b0 a0 ks2 b2 a2) (x1 x2 x3 x4 : Int32) (ris fal : Nat → Int64) (tc : Nat → Int32) (tot pA pB : Nat → Int64) (tm : Nat → Int32) (tmm : Int32) (cA cB : Int64) :
    ∃ r r2, M_X11_sees n x1 x2 x3 x4 ro c ris fal tc tot b0 a0 ks = some r ∧ M_X12_sees n x1 x2 x3 x4 c2 kd mo bi tu po lo wo wt ks2 b2 a2 pA pB tm tmm cA cB = some r2 ∧ r.1 = r2.1 ∧ I_kept r.2.2.2.2.2.2.2 r.2.2.2.2.2.1 r.2.2.2.2.2.2.1 r2.2.1 r2.2.2.1 r2.2.2.2.1 := by
  unfold M_X11_sees M_X12_sees
  rcases sum_at h x1 with ⟨h1, h2⟩ | ⟨j, a, w, sd, hj, rfl, h1, h2, h3⟩
  · rw [h1, h2]
    exact ⟨_, _, rfl, rfl, rfl, hk⟩
  · obtain ⟨k, hk7, hkd, hsk, hs5, h64, -⟩ := h3.kn
    have ej : (nI j).toNatClampNeg = j := nI_clamp (by omega)
    rw [h1, h2, ej]
    dsimp only [Option.bind_some, Option.elim_some]
    rw [if_pos hs5, if_neg one_ne, if_neg (ixn hj), hkd]
    by_cases k6 : k = 6
    · have h4 := h64.mp k6
      rw [if_pos (show nI k = 6 by rw [k6]; rfl), if_neg (by rw [h4]; decide)]
      exact ⟨_, _, rfl, rfl, rfl, hk⟩
    · have h4 : ¬ sd.1 = 4 := fun e => k6 (h64.mpr e)
      rw [if_neg (show ¬ nI k = 6 by rw [i_6, nI_eq (by omega) (by omega)]; exact k6), if_pos (show sd.1 = 8 ∨ sd.1 = 7 ∨ sd.1 = 6 ∨ sd.1 = 1 by omega)]
      rw [in_eq x2 0 5 (by decide) (by decide), in_eq x3 1 3 (by decide) (by decide), in_eq x3 1 8 (by decide) (by decide), in_eq x4 1 8 (by decide) (by decide)]
      rcases wi_c x2 (a := 0) (b := 5) 0 5 rfl rfl (by omega) (by omega) with ⟨c1, c2'⟩ | ⟨c1, s, -, hs, rfl⟩
      · have hsl : M_X11_isSlip x2 x3 = 0 := by
          unfold M_X11_isSlip
          rw [if_neg (show ¬ x2 = 0 from c2' 0 (by omega) (by omega)), if_neg (show ¬ x2 = 1 from c2' 1 (by omega) (by omega))]
          rcases wi_c x2 (a := 2) (b := 5) 2 5 rfl rfl (by omega) (by omega) with ⟨e1, -⟩ | ⟨-, s, s1, s2, e⟩
          · exact e1
          · exact absurd e (c2' s (by omega) (by omega))
        rw [c1, hsl]
        exact ⟨_, _, rfl, rfl, rfl, hk⟩
      · rw [c1, if_neg one_ne]
        have fin : ∀ nb, 1 ≤ nb → nb ≤ 8 → KD n j nb sd kd mo bi tu po lo wo wt := fun nb q1 q2 => kd_all hn q1 q2 hj h3 h4
        by_cases s0 : s = 0
        · subst s0
          have hsl : M_X11_isSlip (nI 0) x3 = M_X11_within x3 1 3 := by
            unfold M_X11_isSlip
            rw [if_pos (show nI 0 = 0 from rfl)]
          rw [hsl, if_pos (show nI 0 = 0 from rfl)]
          rcases wi_c x3 (a := 1) (b := 3) 1 3 rfl rfl (by omega) (by omega) with ⟨d1, -⟩ | ⟨d1, bits, b1, b3, rfl⟩
          · rw [d1]
            exact ⟨_, _, rfl, rfl, rfl, hk⟩
          · rw [d1, if_neg one_ne, if_neg one_ne, if_neg (show ¬ nI 0 = 1 by decide)]
            rcases wi_c x4 (a := 1) (b := 8) 1 8 rfl rfl (by omega) (by omega) with ⟨d2, -⟩ | ⟨d2, nb, n1, n8, rfl⟩
            · rw [d2]
              exact ⟨_, _, rfl, rfl, rfl, hk⟩
            · rw [d2, if_neg one_ne, if_neg one_ne]
              obtain ⟨mg, V, rise, fall, xr, Rl, hG, hH, hC, hM⟩ := fin nb n1 n8
              obtain ⟨ri, fa', e1, e2⟩ := hC ris fal
              obtain ⟨qa, qb, e3, e4⟩ := hM pA pB
              obtain ⟨mm, rfl⟩ : ∃ mm, bits = mm + 1 := ⟨bits - 1, by omega⟩
              obtain ⟨res, tu', tot', b', a', ks', f1, f2, -⟩ := flip_C hG e2 (n := n) (by omega) (k := mm + 1) (nb := nb) rfl (by omega) (by omega) b3 b0 a0 ks mm 4 (Nat.le_refl _) (by omega) (8 * nb) (fun _ => 0) tc tot (Nat.le_refl _) (fun i hi => by omega)
              obtain ⟨res2, ks2', b2', a2', rest, g1, g2⟩ := flip_M e4 (n := n) (by omega) (k := mm + 1) (nb := nb) rfl (by omega) (by omega) b3 (fun _ => 0) ks2 b2 a2 tm tmm cA cB
              obtain ⟨rfl, hk'⟩ := kept_OK hk n8 f2 g2
              rw [Nat.sub_self, Nat.sub_self] at f1
              have f1' : M_X4_findFlip n 4 (nI (mm + 1)) (nI nb) 0 0 ri fa' tc tot b0 a0 ks sd = some (res, tu', tot', b', a', ks') := f1
              unfold M_X4_findFirst
              rw [e1, e3]
              dsimp only [Option.bind_some]
              rw [if_pos (show nI 0 = 0 from rfl), if_pos (show nI 0 = 0 from rfl), f1', g1]
              dsimp only [Option.bind_some]
              by_cases r0 : res = 0
              · rw [if_pos r0, if_pos r0]
                exact ⟨_, _, rfl, rfl, rfl, hk'⟩
              · rw [if_neg r0, if_neg r0]
                exact ⟨_, _, rfl, rfl, rfl, hk'⟩
        · by_cases s1 : s = 1
          · subst s1
            have hsl : M_X11_isSlip (nI 1) x3 = M_X11_within x3 1 8 := by
              unfold M_X11_isSlip
              rw [if_neg (show ¬ nI 1 = 0 by decide), if_pos (show nI 1 = 1 from rfl)]
            rw [hsl, if_neg (show ¬ nI 1 = 0 by decide), if_pos (show nI 1 = 1 from rfl)]
            rcases wi_c x3 (a := 1) (b := 8) 1 8 rfl rfl (by omega) (by omega) with ⟨d1, -⟩ | ⟨d1, bits, b1, b3, rfl⟩
            · rw [d1]
              exact ⟨_, _, rfl, rfl, rfl, hk⟩
            · rw [d1, if_neg one_ne, if_neg one_ne]
              rcases wi_c x4 (a := 1) (b := 8) 1 8 rfl rfl (by omega) (by omega) with ⟨d2, -⟩ | ⟨d2, nb, n1, n8, rfl⟩
              · rw [d2]
                exact ⟨_, _, rfl, rfl, rfl, hk⟩
              · rw [d2, if_neg one_ne, if_neg one_ne]
                obtain ⟨mg, V, rise, fall, xr, Rl, hG, hH, hC, hM⟩ := fin nb n1 n8
                obtain ⟨ri, fa', e1, e2⟩ := hC ris fal
                obtain ⟨qa, qb, e3, e4⟩ := hM pA pB
                obtain ⟨res, tu', tot', b', a', ks', f1, f2⟩ := burst_C hG e2 (n := n) (by omega) (bits := bits) (nb := nb) rfl (by omega) b1 b3 b0 a0 ks tc tot
                obtain ⟨res2, ks2', b2', a2', rest, g1, g2⟩ := burst_M e4 (n := n) (by omega) (bits := bits) (nb := nb) rfl (by omega) b1 b3 ks2 b2 a2 tm tmm cA cB
                obtain ⟨rfl, hk'⟩ := kept_B hk n8 f2 g2
                unfold M_X4_findFirst
                rw [e1, e3]
                dsimp only [Option.bind_some]
                rw [if_neg (show ¬ nI 1 = 0 by decide), if_neg (show ¬ nI 1 = 0 by decide), if_pos (show nI 1 = 1 from rfl), if_pos (show nI 1 = 1 from rfl), f1, g1]
                dsimp only [Option.bind_some]
                by_cases r0 : res = 0
                · rw [if_pos r0, if_pos r0]
                  exact ⟨_, _, rfl, rfl, rfl, hk'⟩
                · rw [if_neg r0, if_neg r0]
                  exact ⟨_, _, rfl, rfl, rfl, hk'⟩
          · have z0 : ¬ nI s = 0 := by rw [i_0, nI_eq (by omega) (by omega)]; exact s0
            have z1 : ¬ nI s = 1 := by rw [i_1, nI_eq (by omega) (by omega)]; exact s1
            have hsl : M_X11_isSlip (nI s) x3 = 1 := by
              unfold M_X11_isSlip
              rw [if_neg z0, if_neg z1]
              rcases wi_c (nI s) (a := 2) (b := 5) 2 5 rfl rfl (by omega) (by omega) with ⟨-, e1⟩ | ⟨e1, -⟩
              · exact absurd rfl (e1 s (by omega) (by omega))
              · exact e1
            rw [hsl, if_neg one_ne, if_neg z0, if_neg z1]
            rcases wi_c x4 (a := 1) (b := 8) 1 8 rfl rfl (by omega) (by omega) with ⟨d2, -⟩ | ⟨d2, nb, n1, n8, rfl⟩
            · rw [d2]
              exact ⟨_, _, rfl, rfl, rfl, hk⟩
            · rw [d2, if_neg one_ne, if_neg one_ne]
              obtain ⟨mg, V, rise, fall, xr, Rl, hG, hH, hC, hM⟩ := fin nb n1 n8
              obtain ⟨ri, fa', e1, e2⟩ := hC ris fal
              obtain ⟨qa, qb, e3, e4⟩ := hM pA pB
              obtain ⟨g, hg⟩ : ∃ g, s = 2 ∧ g = 0 ∨ s = 3 ∧ g = 1 ∨ s = 4 ∧ g = 2 ∨ s = 5 ∧ g = 1 := by
                rcases (show s = 2 ∨ s = 3 ∨ s = 4 ∨ s = 5 by omega) with e | e | e | e
                · exact ⟨0, Or.inl ⟨e, rfl⟩⟩
                · exact ⟨1, Or.inr (Or.inl ⟨e, rfl⟩)⟩
                · exact ⟨2, Or.inr (Or.inr (Or.inl ⟨e, rfl⟩))⟩
                · exact ⟨1, Or.inr (Or.inr (Or.inr ⟨e, rfl⟩))⟩
              obtain ⟨res, b', a', ks', f1, f2⟩ := bytes_C hG e2 (n := n) (by omega) (slip := s) (g := g) (nb := nb) rfl (by omega) hg b0 a0 ks
              obtain ⟨res2, ks2', b2', a2', rest, g1, g2⟩ := bytes_M e4 (n := n) (by omega) (slip := s) (g := g) (nb := nb) rfl (by omega) hH hg ks2 b2 a2 cA cB
              obtain ⟨rfl, hk'⟩ := kept_Y hk n8 f2 g2
              unfold M_X4_findFirst
              rw [e1, e3]
              dsimp only [Option.bind_some]
              rw [if_neg z0, if_neg z0, if_neg z1, if_neg z1, f1, g1]
              dsimp only [Option.bind_some]
              by_cases r0 : res = 0
              · rw [if_pos r0, if_pos r0]
                exact ⟨_, _, rfl, rfl, rfl, hk'⟩
              · rw [if_neg r0, if_neg r0]
                exact ⟨_, _, rfl, rfl, rfl, hk'⟩
end OS
