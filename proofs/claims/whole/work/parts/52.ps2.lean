/-! the reference: rings, branches, one part of a text -/
section PS2
variable {Γ : mj_G} {d L : Nat} {S0 S : mj_S} {C : Nat → Int} {wr am hy sr tr rs fo : Int} {Q : Int → mj_S → Prop}
theorem ps_ring {n br at_ ph dg : Nat} {K F B RA RB BA : Nat → Int} {l : Nat} {rm : Bool} {to : Int} {x6 x7 x8 x10 x11 x12 : Value} (g6 : c1 x6) (g7 : c1 x7) (g8 : c1 x8) (g10 : c1 x10) (g11 : c1 x11) (g12 : c1 x12) (hw0 : S0.2.1 = 65) (hL : L ≤ 60) (hto : 0 ≤ to ∧ to ≤ 3) (hdg : dg < 10) (hn : n ≤ 6) (hl : l < n) (hat : at_ ≤ 60) (hRA : RA dg = -1 ∨ (0 ≤ RA dg ∧ RA dg < n ∧ 0 ≤ RB dg ∧ RB dg ≤ 3)) (hBr : ∀ j, j < 36 → 0 ≤ B j ∧ B j ≤ 3) (h : psI S0 S L wr am hy sr tr rs fo (n, K, F, B, RA, RB, BA, br, (l : Int), rm, at_)) (hd : 1 ≤ d)
    (Hf : (tRing dg to (n, K, F, B, RA, RB, BA, br, (l : Int), rm, at_)).1 ≠ -1 → ∀ S', psE S0 S' L (tAt (tRing dg to (n, K, F, B, RA, RB, BA, br, (l : Int), rm, at_)).2 : Nat) am hy sr tr rs fo → Q (tRing dg to (n, K, F, B, RA, RB, BA, br, (l : Int), rm, at_)).1 S')
    (Hok : (tRing dg to (n, K, F, B, RA, RB, BA, br, (l : Int), rm, at_)).1 = -1 → ∀ S' y6 y7 y8 y9 y10 y11 y12, c1 y6 → c1 y7 → c1 y8 → c1 y9 → c1 y10 → c1 y11 → c1 y12 → psI S0 S' L wr am hy sr tr rs fo (tRing dg to (n, K, F, B, RA, RB, BA, br, (l : Int), rm, at_)).2 → mj_Ok Γ d M_Mo_parse 0 0 33 (psF (tRing dg to (n, K, F, B, RA, RB, BA, br, (l : Int), rm, at_)).2 ph 0 y6 y7 y8 y9 y10 y11 y12) [] S' (mj_I Q)) :
    mj_Ok Γ d M_Mo_parse 0 0 273 [.ref 40, .int (iZ br), .int (iZ ph), .int (iZ l), .int (iZ to), .int (iZ at_), x6, x7, x8, .int (iZ dg), x10, x11, x12] [] S (mj_I Q) := by
  have hga := h.ga
  obtain ⟨f1, hst, ⟨K', h3, h3'⟩, ⟨B', h4, h4'⟩, ⟨PL, h5, h5'⟩, ⟨RA', h6, h6'⟩, RB', h7, h7'⟩ := h
  have h1 : S.1 40 = _ := hst
  have hw := f1.w.trans hw0
  have er := h6' dg hdg
  -- the sign's end
  have t450 : ∀ (S2 : mj_S) (y10 y11 y12 : Value), c1 y10 → c1 y11 → c1 y12 → (∀ y6 y7 y8 y9 y10 y11 y12, c1 y6 → c1 y7 → c1 y8 → c1 y9 → c1 y10 → c1 y11 → c1 y12 → mj_Ok Γ d M_Mo_parse 0 0 33 [.ref 40, .int (iZ br), .int (iZ ph), .int (iZ l), .int (iZ 0), .int (iZ ((at_ : Int) + 1)), y6, y7, y8, y9, y10, y11, y12] [] S2 (mj_I Q)) → mj_Ok Γ d M_Mo_parse 0 0 450 [.ref 40, .int (iZ br), .int (iZ ph), .int (iZ l), .int (iZ to), .int (iZ at_), x6, x7, x8, .int (iZ dg), y10, y11, y12] [] S2 (mj_I Q) := by
    intro S2 y10 y11 y12 q10 q11 q12 H
    refine mz_iconst d_Mo_parse_450 ?_
    refine mz_ist4 d_Mo_parse_451 (by unfold mj_c1; simp only [List.all_cons, g6, g7, g8, q10, q11, q12]; rfl) ?_
    refine mz_inc5 d_Mo_parse_453 (by unfold mj_c1; simp only [List.all_cons, g6, g7, g8, q10, q11, q12]; rfl) ?_
    refine mj_goto 552 d_Mo_parse_456 (by decide) ?_
    refine mj_goto 33 d_Mo_parse_552 (by decide) ?_
    exact H _ _ _ _ _ _ _ g6 g7 g8 rfl q10 q11 q12
  refine mj_aload_n d_Mo_parse_273 rfl ?_
  refine mj_get (ci := 9) (j := 25) d_Mo_parse_274 rfl w_Mo_61 (by decide) (by omega) (by assumption) rfl ?_
  refine mj_iload d_Mo_parse_277 rfl ?_
  refine mz_iald (j := dg) d_Mo_parse_279 (by omega) (by assumption) (by omega) (by omega) ?_
  rw [er]
  refine mz_if_ge 303 d_Mo_parse_280 (by decide) (by omega) (fun c_280 => ?_) (fun c_280 => ?_)
  · -- a ring's second sign
    obtain ⟨a, ha⟩ : ∃ a : Nat, RA dg = a := ⟨(RA dg).toNat, by omega⟩
    have hat2 : (RA dg).toNat = a := by omega
    have eb := h7' dg hdg (by omega)
    rw [ha] at er
    have an : a < n := by omega
    have hB1 := hBr (a * 6 + l) (by omega)
    have hB2 := h4' (a * 6 + l) (by omega)
    have hRB : 0 ≤ RB dg ∧ RB dg ≤ 3 := by omega
    have hR : tRing dg to (n, K, F, B, RA, RB, BA, br, (l : Int), rm, at_) = if (RB dg ≠ 0 ∧ to ≠ 0 ∧ RB dg ≠ to) ∨ (a : Int) = l ∨ 0 < B (a * 6 + l) then (-7, (n, K, F, B, RA, RB, BA, br, (l : Int), rm, at_)) else (-1, (n, K, mbind F B a l (max 1 (max (RB dg) to)), bset B a l (max 1 (max (RB dg) to)), va_up RA dg (-1), RB, BA, br, (l : Int), rm, at_ + 1)) := by
      unfold tRing
      simp only []
      rw [if_neg (by omega), ha, Int.toNat_natCast, Int.toNat_natCast]
    have bad : ((RB dg ≠ 0 ∧ to ≠ 0 ∧ RB dg ≠ to) ∨ (a : Int) = l ∨ 0 < B (a * 6 + l)) → ∀ y11, mj_Ok Γ d M_Mo_parse 0 0 372 [.ref 40, .int (iZ br), .int (iZ ph), .int (iZ l), .int (iZ to), .int (iZ at_), x6, x7, x8, .int (iZ dg), .int (iZ a), y11, x12] [] S (mj_I Q) := by
      intro hc y11
      rw [if_pos hc] at hR
      rw [hR] at Hf
      refine mj_aload_n d_Mo_parse_372 rfl ?_
      refine mz_bipush d_Mo_parse_373 (by decide) ?_
      refine mj_iload d_Mo_parse_375 rfl ?_
      refine mz_callV2i (ci := 9) d_Mo_parse_377 (m_Mo_fault (d := 0) hw hst) cw_Mo_fault lk_Mo_103 rfl rfl (by omega) (by assumption) (by omega) rfl (fun z_377 S_377 h_377 => ?_)
      obtain ⟨q1, rfl, q3⟩ := h_377
      refine mz_iret d_Mo_parse_380 rfl (rfl) ?_
      refine Hf (by simp) _ ⟨f1.tr q1 (by simp) (by simp), ⟨_, q3⟩, fun o ho h1 h2 => ?_⟩
      obtain ⟨A, hA⟩ := hga o ho h1 h2
      exact ⟨A, q1.at hA (by simp; omega)⟩
    have good : ¬ ((RB dg ≠ 0 ∧ to ≠ 0 ∧ RB dg ≠ to) ∨ (a : Int) = l ∨ 0 < B (a * 6 + l)) → ∀ y11, c1 y11 → mj_Ok Γ d M_Mo_parse 0 0 381 [.ref 40, .int (iZ br), .int (iZ ph), .int (iZ l), .int (iZ to), .int (iZ at_), x6, x7, x8, .int (iZ dg), .int (iZ a), y11, x12] [] S (mj_I Q) := by
      intro hc y11 q11
      rw [if_neg hc] at hR
      rw [hR] at Hok
      have t412 : ∀ v : Int, v = max 1 (max (RB dg) to) → mj_Ok Γ d M_Mo_parse 0 0 412 [.ref 40, .int (iZ br), .int (iZ ph), .int (iZ l), .int (iZ to), .int (iZ at_), x6, x7, x8, .int (iZ dg), .int (iZ a), y11, x12] [.int (iZ v)] S (mj_I Q) := by
        intro v hv
        refine mz_ist12 d_Mo_parse_412 (by unfold mj_c1; simp only [List.all_cons, g6, g7, g8, q11, g12]; rfl) ?_
        refine mj_aload_n d_Mo_parse_414 rfl ?_
        refine mj_get (ci := 9) (j := 21) d_Mo_parse_415 rfl w_Mo_49 (by decide) (by omega) (by assumption) rfl ?_
        refine mz_bipush d_Mo_parse_418 (by decide) ?_
        refine mj_iload d_Mo_parse_420 rfl ?_
        refine mz_imul d_Mo_parse_422 ?_
        refine mj_iload_n d_Mo_parse_423 rfl ?_
        refine mz_iadd d_Mo_parse_424 ?_
        refine mj_iload d_Mo_parse_425 rfl ?_
        refine mz_iast (j := a * 6 + l) d_Mo_parse_427 (by omega) (by assumption) (by omega) (by omega) (fun S_427 w_427 e_427 f_427 => ?_)
        have h1' := f_427.at h1 (by simp)
        refine mj_aload_n d_Mo_parse_428 rfl ?_
        refine mj_get (ci := 9) (j := 21) d_Mo_parse_429 rfl w_Mo_49 (by decide) (by omega) (by assumption) rfl ?_
        refine mz_bipush d_Mo_parse_432 (by decide) ?_
        refine mj_iload_n d_Mo_parse_434 rfl ?_
        refine mz_imul d_Mo_parse_435 ?_
        refine mj_iload d_Mo_parse_436 rfl ?_
        refine mz_iadd d_Mo_parse_438 ?_
        refine mj_iload d_Mo_parse_439 rfl ?_
        refine mz_iast (j := l * 6 + a) d_Mo_parse_441 (by omega) (by assumption) (by omega) (by omega) (fun S_441 w_441 e_441 f_441 => ?_)
        have h1' := f_441.at h1' (by simp)
        have f2 : mj_fr S S_441 [52] := f_427.tr f_441 (by simp) (by simp)
        have h6 := f2.at h6 (by simp)
        refine mj_aload_n d_Mo_parse_442 rfl ?_
        refine mj_get (ci := 9) (j := 25) d_Mo_parse_443 rfl w_Mo_61 (by decide) (by omega) (by assumption) rfl ?_
        refine mj_iload d_Mo_parse_446 rfl ?_
        refine mz_iconst d_Mo_parse_448 ?_
        refine mz_iast (j := dg) d_Mo_parse_449 (by omega) (by assumption) (by omega) (by omega) (fun S_449 w_449 e_449 f_449 => ?_)
        have f3 : mj_fr S S_449 [52, 56] := f2.tr f_449 (by simp) (by simp)
        refine t450 S_449 _ _ _ rfl q11 rfl (fun y6 y7 y8 y9 y10 y11 y12 k6 k7 k8 k9 k10 k11 k12 => ?_)
        have w := Hok rfl S_449 y6 y7 y8 y9 y10 y11 y12 k6 k7 k8 k9 k10 k11 k12 ⟨f1.tr f3 (by simp) (by simp), f3.at h1 (by simp), ⟨K', f3.at h3 (by simp), h3'⟩, ⟨_, f_449.at e_441 (by simp), fun j hj => ?_⟩, ⟨PL, f3.at h5 (by simp), h5'⟩, ⟨_, e_449, fun j hj => ?_⟩, RB', f3.at h7 (by simp), fun j hj hne => ?_⟩
        · exact w
        · unfold bset
          rw [← hv]
          by_cases q1 : j = l * 6 + a
          · subst q1; rw [va_up_self, va_up_self]
          · rw [va_up_ne _ _ q1, va_up_ne _ _ q1]
            by_cases q2 : j = a * 6 + l
            · subst q2; rw [va_up_self, va_up_self]
            · rw [va_up_ne _ _ q2, va_up_ne _ _ q2]; exact h4' j hj
        · by_cases q1 : j = dg
          · subst q1; rw [va_up_self, va_up_self]
          · rw [va_up_ne _ _ q1, va_up_ne _ _ q1]; exact h6' j hj
        · by_cases q1 : j = dg
          · subst q1; rw [va_up_self] at hne; exact absurd rfl hne
          · rw [va_up_ne _ _ q1] at hne; exact h7' j hj hne
      refine mj_iload d_Mo_parse_381 rfl ?_
      refine mz_if_le 391 d_Mo_parse_383 (by decide) (by omega) (fun c_383 => ?_) (fun c_383 => ?_)
      · refine mj_aload_n d_Mo_parse_391 rfl ?_
        refine mj_get (ci := 9) (j := 26) d_Mo_parse_392 rfl w_Mo_64 (by decide) (by omega) (by assumption) rfl ?_
        refine mj_iload d_Mo_parse_395 rfl ?_
        refine mz_iald (j := dg) d_Mo_parse_397 (by omega) (by assumption) (by omega) (by omega) ?_
        rw [eb]
        refine mz_if_le 411 d_Mo_parse_398 (by decide) (by omega) (fun c_398 => ?_) (fun c_398 => ?_)
        · refine mz_iconst d_Mo_parse_411 ?_
          exact t412 1 (by omega)
        · refine mj_aload_n d_Mo_parse_401 rfl ?_
          refine mj_get (ci := 9) (j := 26) d_Mo_parse_402 rfl w_Mo_64 (by decide) (by omega) (by assumption) rfl ?_
          refine mj_iload d_Mo_parse_405 rfl ?_
          refine mz_iald (j := dg) d_Mo_parse_407 (by omega) (by assumption) (by omega) (by omega) ?_
          refine mj_goto 412 d_Mo_parse_408 (by decide) ?_
          rw [eb]
          exact t412 _ (by omega)
      · refine mj_iload d_Mo_parse_386 rfl ?_
        refine mj_goto 412 d_Mo_parse_388 (by decide) ?_
        exact t412 _ (by omega)
    have t346 : ∀ ot : Int, (ot = if (RB dg ≠ 0 ∧ to ≠ 0 ∧ RB dg ≠ to) then 1 else 0) → mj_Ok Γ d M_Mo_parse 0 0 346 [.ref 40, .int (iZ br), .int (iZ ph), .int (iZ l), .int (iZ to), .int (iZ at_), x6, x7, x8, .int (iZ dg), .int (iZ a), .int (iZ ot), x12] [] S (mj_I Q) := by
      intro ot hot
      have hor : iR ot := by rw [hot]; split <;> decide
      refine mj_iload d_Mo_parse_346 rfl ?_
      refine mj_iload_n d_Mo_parse_348 rfl ?_
      refine mz_icmp_eq 372 d_Mo_parse_349 (by decide) (by omega) (by omega) (fun c_349 => ?_) (fun c_349 => ?_)
      · exact bad (Or.inr (Or.inl c_349)) _
      · refine mj_aload_n d_Mo_parse_352 rfl ?_
        refine mj_get (ci := 9) (j := 21) d_Mo_parse_353 rfl w_Mo_49 (by decide) (by omega) (by assumption) rfl ?_
        refine mz_bipush d_Mo_parse_356 (by decide) ?_
        refine mj_iload d_Mo_parse_358 rfl ?_
        refine mz_imul d_Mo_parse_360 ?_
        refine mj_iload_n d_Mo_parse_361 rfl ?_
        refine mz_iadd d_Mo_parse_362 ?_
        refine mz_iald (j := a * 6 + l) d_Mo_parse_363 (by omega) (by assumption) (by omega) (by omega) ?_
        rw [hB2]
        refine mz_if_gt 372 d_Mo_parse_364 (by decide) (by omega) (fun c_364 => ?_) (fun c_364 => ?_)
        · exact bad (Or.inr (Or.inr c_364)) _
        · refine mj_iload d_Mo_parse_367 rfl ?_
          refine mz_if_eq 381 d_Mo_parse_369 (by decide) (by omega) (fun c_369 => ?_) (fun c_369 => ?_)
          · refine good (fun q => ?_) _ rfl
            rcases q with q | q | q
            · rw [if_pos q] at hot; omega
            · exact c_349 q
            · omega
          · refine bad (Or.inl ?_) _
            by_cases q : (RB dg ≠ 0 ∧ to ≠ 0 ∧ RB dg ≠ to)
            · exact q
            · rw [if_neg q] at hot; exact absurd hot c_369
    have t343 : ¬ (RB dg ≠ 0 ∧ to ≠ 0 ∧ RB dg ≠ to) → mj_Ok Γ d M_Mo_parse 0 0 343 [.ref 40, .int (iZ br), .int (iZ ph), .int (iZ l), .int (iZ to), .int (iZ at_), x6, x7, x8, .int (iZ dg), .int (iZ a), x11, x12] [] S (mj_I Q) := by
      intro q
      refine mz_iconst d_Mo_parse_343 ?_
      refine mz_ist11 d_Mo_parse_344 (by unfold mj_c1; simp only [List.all_cons, g6, g7, g8, g11, g12]; rfl) ?_
      exact t346 0 (by rw [if_neg q])
    refine mj_aload_n d_Mo_parse_303 rfl ?_
    refine mj_get (ci := 9) (j := 25) d_Mo_parse_304 rfl w_Mo_61 (by decide) (by omega) (by assumption) rfl ?_
    refine mj_iload d_Mo_parse_307 rfl ?_
    refine mz_iald (j := dg) d_Mo_parse_309 (by omega) (by assumption) (by omega) (by omega) ?_
    rw [er]
    refine mz_ist10 d_Mo_parse_310 (by unfold mj_c1; simp only [List.all_cons, g6, g7, g8, g10, g11, g12]; rfl) ?_
    refine mj_iload d_Mo_parse_312 rfl ?_
    refine mz_if_le 343 d_Mo_parse_314 (by decide) (by omega) (fun c_314 => ?_) (fun c_314 => ?_)
    · exact t343 (by omega)
    · refine mj_aload_n d_Mo_parse_317 rfl ?_
      refine mj_get (ci := 9) (j := 26) d_Mo_parse_318 rfl w_Mo_64 (by decide) (by omega) (by assumption) rfl ?_
      refine mj_iload d_Mo_parse_321 rfl ?_
      refine mz_iald (j := dg) d_Mo_parse_323 (by omega) (by assumption) (by omega) (by omega) ?_
      rw [eb]
      refine mz_if_le 343 d_Mo_parse_324 (by decide) (by omega) (fun c_324 => ?_) (fun c_324 => ?_)
      · exact t343 (by omega)
      · refine mj_iload d_Mo_parse_327 rfl ?_
        refine mj_aload_n d_Mo_parse_329 rfl ?_
        refine mj_get (ci := 9) (j := 26) d_Mo_parse_330 rfl w_Mo_64 (by decide) (by omega) (by assumption) rfl ?_
        refine mj_iload d_Mo_parse_333 rfl ?_
        refine mz_iald (j := dg) d_Mo_parse_335 (by omega) (by assumption) (by omega) (by omega) ?_
        rw [eb]
        refine mz_icmp_eq 343 d_Mo_parse_336 (by decide) (by omega) (by omega) (fun c_336 => ?_) (fun c_336 => ?_)
        · exact t343 (by omega)
        · refine mz_iconst d_Mo_parse_339 ?_
          refine mj_goto 344 d_Mo_parse_340 (by decide) ?_
          refine mz_ist11 d_Mo_parse_344 (by unfold mj_c1; simp only [List.all_cons, g6, g7, g8, g11, g12]; rfl) ?_
          exact t346 1 (by rw [if_pos (by omega)])
  · -- a ring's first sign
    have hR : tRing dg to (n, K, F, B, RA, RB, BA, br, (l : Int), rm, at_) = (-1, (n, K, F, B, va_up RA dg (l : Int), va_up RB dg to, BA, br, (l : Int), rm, at_ + 1)) := by
      unfold tRing
      simp only []
      rw [if_pos (by omega)]
    rw [hR] at Hok
    refine mj_aload_n d_Mo_parse_283 rfl ?_
    refine mj_get (ci := 9) (j := 25) d_Mo_parse_284 rfl w_Mo_61 (by decide) (by omega) (by assumption) rfl ?_
    refine mj_iload d_Mo_parse_287 rfl ?_
    refine mj_iload_n d_Mo_parse_289 rfl ?_
    refine mz_iast (j := dg) d_Mo_parse_290 (by omega) (by assumption) (by omega) (by omega) (fun S_290 w_290 e_290 f_290 => ?_)
    have h1' := f_290.at h1 (by simp)
    have h7 := f_290.at h7 (by simp)
    refine mj_aload_n d_Mo_parse_291 rfl ?_
    refine mj_get (ci := 9) (j := 26) d_Mo_parse_292 rfl w_Mo_64 (by decide) (by omega) (by assumption) rfl ?_
    refine mj_iload d_Mo_parse_295 rfl ?_
    refine mj_iload d_Mo_parse_297 rfl ?_
    refine mz_iast (j := dg) d_Mo_parse_299 (by omega) (by assumption) (by omega) (by omega) (fun S_299 w_299 e_299 f_299 => ?_)
    refine mj_goto 450 d_Mo_parse_300 (by decide) ?_
    have f3 : mj_fr S S_299 [56, 57] := f_290.tr f_299 (by simp) (by simp)
    refine t450 S_299 _ _ _ g10 g11 g12 (fun y6 y7 y8 y9 y10 y11 y12 k6 k7 k8 k9 k10 k11 k12 => ?_)
    have w := Hok rfl S_299 y6 y7 y8 y9 y10 y11 y12 k6 k7 k8 k9 k10 k11 k12 ⟨f1.tr f3 (by simp) (by simp), f3.at h1 (by simp), ⟨K', f3.at h3 (by simp), h3'⟩, ⟨B', f3.at h4 (by simp), h4'⟩, ⟨PL, f3.at h5 (by simp), h5'⟩, ⟨_, f_299.at e_290 (by simp), fun j hj => ?_⟩, _, e_299, fun j hj hne => ?_⟩
    · exact w
    · by_cases q1 : j = dg
      · subst q1; rw [va_up_self, va_up_self]
      · rw [va_up_ne _ _ q1, va_up_ne _ _ q1]; exact h6' j hj
    · by_cases q1 : j = dg
      · subst q1; rw [va_up_self, va_up_self]
      · rw [va_up_ne _ _ q1] at hne; rw [va_up_ne _ _ q1, va_up_ne _ _ q1]; exact h7' j hj hne
/-- what is read behind a bond's sign or none: an atom or a ring -/
def tOne (L : Nat) (C : Nat → Int) (ph : Nat) (to : Int) (t : TS) : Int × TS := if ph = 1 ∧ 49 ≤ ln_at L C (tAt t) ∧ ln_at L C (tAt t) ≤ 57 then tRing (ln_at L C (tAt t) - 48).toNat to t else tAtom L C to t
theorem ln_el_no {L : Nat} {C : Nat → Int} {k : Nat} (h : k < L) (hc : C k = 40 ∨ C k = 41 ∨ (48 ≤ C k ∧ C k ≤ 57) ∨ tbd (C k) ≠ 0) : ln_el L C k = -1 := by
  rw [← mo_el_at]
  have e : mo_at L C (k : Int) = C k := by unfold mo_at; rw [if_pos (by omega)]; rfl
  rw [e]
  have h2 : C k < 65 := by
    rcases hc with q | q | q | q
    · omega
    · omega
    · omega
    · unfold tbd at q
      by_cases q1 : C k = 45
      · omega
      · rw [if_neg q1] at q
        by_cases q2 : C k = 61
        · omega
        · rw [if_neg q2] at q
          by_cases q3 : C k = 35
          · omega
          · rw [if_neg q3] at q; exact absurd rfl q
  unfold mo_el
  rw [if_neg (by omega), if_neg (by omega), if_neg (by omega), if_neg (by omega), if_neg (by omega), if_neg (by omega), if_neg (by omega), if_neg (by omega), if_neg (by omega), if_neg (by omega)]
theorem tbd_dig {c : Int} (h : 48 ≤ c ∧ c ≤ 57 ∨ c = 40 ∨ c = 41) : tbd c = 0 := by
  unfold tbd
  rw [if_neg (by omega), if_neg (by omega), if_neg (by omega)]
theorem ps_one {n br at_ ph : Nat} {K F B RA RB BA : Nat → Int} {la : Int} {rm : Bool} {to : Int} {x6 x7 x8 x9 x10 x11 x12 : Value} (g6 : c1 x6) (g7 : c1 x7) (g8 : c1 x8) (g9 : c1 x9) (g10 : c1 x10) (g11 : c1 x11) (g12 : c1 x12) (hw0 : S0.2.1 = 65) (hlc : mj_lc S0 C) (hL : L ≤ 60) (hto : 0 ≤ to ∧ to ≤ 3) (hph : ph ≤ 3) (hn : n ≤ 6) (hla : la = -1 ∨ (0 ≤ la ∧ la < n)) (hla1 : ph = 1 → 0 ≤ la) (hat : at_ ≤ L) (hbr : br ≤ 60) (hRA : ∀ j, j < 10 → RA j = -1 ∨ (0 ≤ RA j ∧ RA j < n ∧ 0 ≤ RB j ∧ RB j ≤ 3)) (hBr : ∀ j, j < 36 → 0 ≤ B j ∧ B j ≤ 3)
    (hb : to ≠ 0 ∨ ph = 0 ∨ tbd (ln_at L C at_) = 0) (hp : to ≠ 0 ∨ ph = 3 ∨ ph = 0 ∨ (ln_at L C at_ ≠ 40 ∧ ln_at L C at_ ≠ 41)) (hk : at_ < L ∨ to ≠ 0 ∨ ph = 3 ∨ ph = 0) (h : psI S0 S L wr am hy sr tr rs fo (n, K, F, B, RA, RB, BA, br, la, rm, at_)) (hd : 2 ≤ d)
    (Hf : (tOne L C ph to (n, K, F, B, RA, RB, BA, br, la, rm, at_)).1 ≠ -1 → ∀ S', psE S0 S' L (tAt (tOne L C ph to (n, K, F, B, RA, RB, BA, br, la, rm, at_)).2 : Nat) am hy sr tr rs fo → Q (tOne L C ph to (n, K, F, B, RA, RB, BA, br, la, rm, at_)).1 S')
    (Hok : (tOne L C ph to (n, K, F, B, RA, RB, BA, br, la, rm, at_)).1 = -1 → ∀ S' y6 y7 y8 y9 y10 y11 y12, c1 y6 → c1 y7 → c1 y8 → c1 y9 → c1 y10 → c1 y11 → c1 y12 → psI S0 S' L wr am hy sr tr rs fo (tOne L C ph to (n, K, F, B, RA, RB, BA, br, la, rm, at_)).2 → mj_Ok Γ d M_Mo_parse 0 0 33 (psF (tOne L C ph to (n, K, F, B, RA, RB, BA, br, la, rm, at_)).2 1 0 y6 y7 y8 y9 y10 y11 y12) [] S' (mj_I Q)) :
    mj_Ok Γ d M_Mo_parse 0 0 33 [.ref 40, .int (iZ br), .int (iZ ph), .int (iZ la), .int (iZ to), .int (iZ at_), x6, x7, x8, x9, x10, x11, x12] [] S (mj_I Q) := by
  have hga := h.ga
  have h0 := h
  obtain ⟨f1, hst, -⟩ := h
  have h1 : S.1 40 = _ := hst
  have hw := f1.w.trans hw0
  have hlS : mj_lc S C := ⟨f1.at hlc.1 (by simp), hlc.2⟩
  by_cases hkL : at_ < L
  · have hln : ln_at L C (at_ : Int) = C at_ := by unfold ln_at; rw [if_pos (by omega)]; rfl
    have hcr := hlc.2 at_
    have hbd := tbd_r (C at_)
    have hT : tOne L C ph to (n, K, F, B, RA, RB, BA, br, la, rm, at_) = if ph = 1 ∧ 49 ≤ C at_ ∧ C at_ ≤ 57 then tRing (C at_ - 48).toNat to (n, K, F, B, RA, RB, BA, br, la, rm, at_) else tAtom L C to (n, K, F, B, RA, RB, BA, br, la, rm, at_) := by
      show (if ph = 1 ∧ 49 ≤ ln_at L C (at_ : Int) ∧ ln_at L C (at_ : Int) ≤ 57 then tRing (ln_at L C (at_ : Int) - 48).toNat to _ else _) = _
      rw [hln]
    rw [hln] at hb hp
    have re := ln_el_r L C (at_ : Int)
    refine ps_head g6 g7 g8 g9 g10 g11 g12 hw hst hlS hL hkL hd ?_
    have no : ¬ (ph = 1 ∧ 49 ≤ C at_ ∧ C at_ ≤ 57) → (ln_el L C at_ = -1 ∨ ln_el L C at_ = 9) → mj_Ok Γ d M_Mo_parse 0 0 543 [.ref 40, .int (iZ br), .int (iZ ph), .int (iZ la), .int (iZ to), .int (iZ at_), .int (iZ (C at_)), .int (iZ (ln_el L C at_)), .int (iZ (tbd (C at_))), x9, x10, x11, x12] [] S (mj_I Q) := by
      intro q1 q2
      rw [if_neg q1] at hT
      have hR : tAtom L C to (n, K, F, B, RA, RB, BA, br, la, rm, at_) = (-2, (n, K, F, B, RA, RB, BA, br, la, rm, at_)) := if_pos q2
      rw [hT, hR] at Hf
      exact ps_sign hw0 h0 (by omega) (fun S' hE => Hf (by simp) S' hE)
    have t499 : ¬ (ph = 1 ∧ 49 ≤ C at_ ∧ C at_ ≤ 57) → (ln_el L C at_ = -1 ∨ ln_el L C at_ = 9) → mj_Ok Γ d M_Mo_parse 0 0 499 [.ref 40, .int (iZ br), .int (iZ ph), .int (iZ la), .int (iZ to), .int (iZ at_), .int (iZ (C at_)), .int (iZ (ln_el L C at_)), .int (iZ (tbd (C at_))), x9, x10, x11, x12] [] S (mj_I Q) := by
      intro q1 q2
      refine mj_iload d_Mo_parse_499 rfl ?_
      refine mz_bipush d_Mo_parse_501 (by decide) ?_
      refine mz_icmp_ne 543 d_Mo_parse_503 (by decide) (by omega) (by omega) (fun c_503 => ?_) (fun c_503 => ?_)
      · exact no q1 q2
      · refine mj_iload d_Mo_parse_506 rfl ?_
        refine mz_if_ne 543 d_Mo_parse_508 (by decide) (by omega) (fun c_508 => ?_) (fun c_508 => ?_)
        · exact no q1 q2
        · refine mj_iload_n d_Mo_parse_511 rfl ?_
          refine mz_if_le 543 d_Mo_parse_512 (by decide) (by omega) (fun c_512 => ?_) (fun c_512 => ?_)
          · exact no q1 q2
          · refine mj_iload_n d_Mo_parse_515 rfl ?_
            refine mz_iconst d_Mo_parse_516 ?_
            refine mz_icmp_eq 525 d_Mo_parse_517 (by decide) (by omega) (by omega) (fun c_517 => ?_) (fun c_517 => ?_)
            · omega
            · refine mj_iload_n d_Mo_parse_520 rfl ?_
              refine mz_iconst d_Mo_parse_521 ?_
              refine mz_icmp_ne 543 d_Mo_parse_522 (by decide) (by omega) (by omega) (fun c_522 => ?_) (fun c_522 => ?_)
              · exact no q1 q2
              · omega
    have t459 : ¬ (ph = 1 ∧ 49 ≤ C at_ ∧ C at_ ≤ 57) → (ln_el L C at_ = -1 ∨ ln_el L C at_ = 9) → mj_Ok Γ d M_Mo_parse 0 0 459 [.ref 40, .int (iZ br), .int (iZ ph), .int (iZ la), .int (iZ to), .int (iZ at_), .int (iZ (C at_)), .int (iZ (ln_el L C at_)), .int (iZ (tbd (C at_))), x9, x10, x11, x12] [] S (mj_I Q) := by
      intro q1 q2
      refine mj_iload d_Mo_parse_459 rfl ?_
      refine mz_bipush d_Mo_parse_461 (by decide) ?_
      refine mz_icmp_ne 499 d_Mo_parse_463 (by decide) (by omega) (by omega) (fun c_463 => ?_) (fun c_463 => ?_)
      · exact t499 q1 q2
      · refine mj_iload d_Mo_parse_466 rfl ?_
        refine mz_if_ne 499 d_Mo_parse_468 (by decide) (by omega) (fun c_468 => ?_) (fun c_468 => ?_)
        · exact t499 q1 q2
        · refine mj_iload_n d_Mo_parse_471 rfl ?_
          refine mz_iconst d_Mo_parse_472 ?_
          refine mz_icmp_eq 481 d_Mo_parse_473 (by decide) (by omega) (by omega) (fun c_473 => ?_) (fun c_473 => ?_)
          · omega
          · refine mj_iload_n d_Mo_parse_476 rfl ?_
            refine mz_iconst d_Mo_parse_477 ?_
            refine mz_icmp_ne 499 d_Mo_parse_478 (by decide) (by omega) (by omega) (fun c_478 => ?_) (fun c_478 => ?_)
            · exact t499 q1 q2
            · omega
    have t247 : (ln_el L C at_ = -1 ∨ ln_el L C at_ = 9) → mj_Ok Γ d M_Mo_parse 0 0 247 [.ref 40, .int (iZ br), .int (iZ ph), .int (iZ la), .int (iZ to), .int (iZ at_), .int (iZ (C at_)), .int (iZ (ln_el L C at_)), .int (iZ (tbd (C at_))), x9, x10, x11, x12] [] S (mj_I Q) := by
      intro q2
      refine mj_iload d_Mo_parse_247 rfl ?_
      refine mz_bipush d_Mo_parse_249 (by decide) ?_
      refine mz_icmp_lt 459 d_Mo_parse_251 (by decide) (by omega) (by omega) (fun c_251 => ?_) (fun c_251 => ?_)
      · exact t459 (by omega) q2
      · refine mj_iload d_Mo_parse_254 rfl ?_
        refine mz_bipush d_Mo_parse_256 (by decide) ?_
        refine mz_icmp_gt 459 d_Mo_parse_258 (by decide) (by omega) (by omega) (fun c_258 => ?_) (fun c_258 => ?_)
        · exact t459 (by omega) q2
        · refine mj_iload_n d_Mo_parse_261 rfl ?_
          refine mz_iconst d_Mo_parse_262 ?_
          refine mz_icmp_ne 459 d_Mo_parse_263 (by decide) (by omega) (by omega) (fun c_263 => ?_) (fun c_263 => ?_)
          · exact t459 (by omega) q2
          · have hc1 : ph = 1 ∧ 49 ≤ C at_ ∧ C at_ ≤ 57 := by omega
            rw [if_pos hc1] at hT
            obtain ⟨dg, hdg⟩ : ∃ dg : Nat, C at_ - 48 = dg := ⟨(C at_ - 48).toNat, by omega⟩
            rw [hdg, Int.toNat_natCast] at hT
            obtain ⟨l, rfl⟩ : ∃ l : Nat, la = l := ⟨la.toNat, by have := hla1 hc1.1; omega⟩
            have hd10 : dg < 10 := by omega
            have hRd := hRA dg hd10
            rw [hT] at Hf Hok
            have p1 : ph = 1 := hc1.1
            subst p1
            refine mj_iload d_Mo_parse_266 rfl ?_
            refine mz_bipush d_Mo_parse_268 (by decide) ?_
            refine mz_isub d_Mo_parse_270 ?_
            rw [hdg]
            refine mz_ist9 d_Mo_parse_271 (by unfold mj_c1; simp only [List.all_cons, g9, g10, g11, g12]; rfl) ?_
            exact ps_ring rfl rfl rfl g10 g11 g12 hw0 hL hto hd10 hn (by omega) (by omega) hRd hBr h0 (by omega) Hf Hok
    have t223 : (ln_el L C at_ = -1 ∨ ln_el L C at_ = 9) → mj_Ok Γ d M_Mo_parse 0 0 223 [.ref 40, .int (iZ br), .int (iZ ph), .int (iZ la), .int (iZ to), .int (iZ at_), .int (iZ (C at_)), .int (iZ (ln_el L C at_)), .int (iZ (tbd (C at_))), x9, x10, x11, x12] [] S (mj_I Q) := by
      intro q2
      refine mj_iload d_Mo_parse_223 rfl ?_
      refine mz_if_le 247 d_Mo_parse_225 (by decide) (by omega) (fun c_225 => ?_) (fun c_225 => ?_)
      · exact t247 q2
      · refine mj_iload d_Mo_parse_228 rfl ?_
        refine mz_if_ne 247 d_Mo_parse_230 (by decide) (by omega) (fun c_230 => ?_) (fun c_230 => ?_)
        · exact t247 q2
        · refine mj_iload_n d_Mo_parse_233 rfl ?_
          refine mz_if_le 247 d_Mo_parse_234 (by decide) (by omega) (fun c_234 => ?_) (fun c_234 => ?_)
          · exact t247 q2
          · omega
    refine mj_iload d_Mo_parse_95 rfl ?_
    refine mz_if_lt 223 d_Mo_parse_97 (by decide) (by omega) (fun c_97 => ?_) (fun c_97 => ?_)
    · exact t223 (by omega)
    · refine mj_iload d_Mo_parse_100 rfl ?_
      refine mz_bipush d_Mo_parse_102 (by decide) ?_
      refine mz_icmp_eq 223 d_Mo_parse_104 (by decide) (by omega) (by omega) (fun c_104 => ?_) (fun c_104 => ?_)
      · exact t223 (by omega)
      · obtain ⟨e, he⟩ : ∃ e : Nat, ln_el L C (at_ : Int) = e := ⟨(ln_el L C (at_ : Int)).toNat, by omega⟩
        have hnd : ¬ (ph = 1 ∧ 49 ≤ C at_ ∧ C at_ ≤ 57) := by
          intro q
          have := ln_el_no (L := L) (C := C) hkL (Or.inr (Or.inr (Or.inl (by omega))))
          omega
        rw [if_neg hnd] at hT
        rw [hT] at Hf Hok
        rw [he]
        exact ps_atom rfl rfl g9 g10 g11 g12 hw0 hL hto he (by omega) hn hla (by omega) h0 (by omega) Hf Hok
  · -- the line's end
    have e0 : at_ = L := by omega
    subst e0
    have hln : ln_at at_ C (at_ : Int) = 32 := by unfold ln_at; rw [if_neg (by omega)]
    have hel : ln_el at_ C (at_ : Int) = -1 := by
      rw [← mo_el_at]
      unfold mo_at
      rw [if_neg (by omega), if_neg (by omega)]
      decide
    have hT : tOne at_ C ph to (n, K, F, B, RA, RB, BA, br, la, rm, at_) = (-2, (n, K, F, B, RA, RB, BA, br, la, rm, at_)) := by
      show (if ph = 1 ∧ 49 ≤ ln_at at_ C (at_ : Int) ∧ ln_at at_ C (at_ : Int) ≤ 57 then tRing (ln_at at_ C (at_ : Int) - 48).toNat to _ else _) = _
      rw [hln, if_neg (by omega)]
      exact if_pos (Or.inl hel)
    rw [hT] at Hf
    have t573 : mj_Ok Γ d M_Mo_parse 0 0 573 [.ref 40, .int (iZ br), .int (iZ ph), .int (iZ la), .int (iZ to), .int (iZ at_), x6, x7, x8, x9, x10, x11, x12] [] S (mj_I Q) := by
      refine mj_aload_n d_Mo_parse_573 rfl ?_
      refine mz_bipush d_Mo_parse_574 (by decide) ?_
      refine mj_aload_n d_Mo_parse_576 rfl ?_
      refine mj_get (ci := 9) (j := 1) d_Mo_parse_577 rfl w_Mo_88 (by decide) (by omega) (by assumption) rfl ?_
      refine mz_callV2i (ci := 9) d_Mo_parse_580 (m_Mo_fault (d := 0) hw hst) cw_Mo_fault lk_Mo_103 rfl rfl (by omega) (by assumption) (by omega) rfl (fun z_580 S_580 h_580 => ?_)
      obtain ⟨q1, rfl, q3⟩ := h_580
      refine mz_iret d_Mo_parse_583 rfl (rfl) ?_
      refine Hf (by simp) _ ⟨f1.tr q1 (by simp) (by simp), ⟨_, q3⟩, fun o ho h1 h2 => ?_⟩
      obtain ⟨A, hA⟩ := hga o ho h1 h2
      exact ⟨A, q1.at hA (by simp; omega)⟩
    refine mj_iload d_Mo_parse_33 rfl ?_
    refine mj_aload_n d_Mo_parse_35 rfl ?_
    refine mj_get (ci := 9) (j := 1) d_Mo_parse_36 rfl w_Mo_88 (by decide) (by omega) (by assumption) rfl ?_
    refine mz_icmp_ge 555 d_Mo_parse_39 (by decide) (by omega) (by omega) (fun c_39 => ?_) (fun c_39 => ?_)
    · refine mj_iload d_Mo_parse_555 rfl ?_
      refine mz_if_gt 573 d_Mo_parse_557 (by decide) (by omega) (fun c_557 => ?_) (fun c_557 => ?_)
      · exact t573
      · refine mj_iload_n d_Mo_parse_560 rfl ?_
        refine mz_if_gt 573 d_Mo_parse_561 (by decide) (by omega) (fun c_561 => ?_) (fun c_561 => ?_)
        · exact t573
        · refine mj_iload_n d_Mo_parse_564 rfl ?_
          refine mz_if_eq 573 d_Mo_parse_565 (by decide) (by omega) (fun c_565 => ?_) (fun c_565 => ?_)
          · exact t573
          · refine mj_iload_n d_Mo_parse_568 rfl ?_
            refine mz_iconst d_Mo_parse_569 ?_
            refine mz_icmp_ne 584 d_Mo_parse_570 (by decide) (by omega) (by omega) (fun c_570 => ?_) (fun c_570 => ?_)
            · omega
            · exact t573
    · omega
end PS2
