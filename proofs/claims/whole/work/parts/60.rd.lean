/-! the reference: read -/
theorem mj_fd_eq {acc : List Nat} {c : Nat} {r r' : Int} (h : mj_fd acc c r) (h' : mj_fd acc c r') : r = r' := by
  rcases h with ⟨i, e, h1, h2, h3⟩ | ⟨e, h1⟩
  · rcases h' with ⟨i', e', h1', h2', h3'⟩ | ⟨e', h1'⟩
    · by_cases q : i = i'
      · omega
      · by_cases q2 : i < i'
        · exact absurd h2 (h3' i q2)
        · exact absurd h2' (h3 i' (by omega))
    · exact absurd h2 (h1' i h1)
  · rcases h' with ⟨i', e', h1', h2', h3'⟩ | ⟨e', h1'⟩
    · exact absurd h2' (h1 i' h1')
    · omega
theorem mj_inP_eq {n h n2 : Nat} {KM KM2 BN : Nat → Nat} {acc : List Nat} {F2 : Nat → Int} {z z' : Int} (h1 : mj_inP n h KM acc n2 F2 KM2 BN z) (h2 : mj_inP n h KM acc n2 F2 KM2 BN z') : z = z' := by
  rcases h1 with ⟨a, b⟩ | ⟨a, b⟩
  · rcases h2 with ⟨a', b'⟩ | ⟨a', b'⟩
    · omega
    · exact absurd a' a
  · rcases h2 with ⟨a', b'⟩ | ⟨a', b'⟩
    · exact absurd a a'
    · exact mj_fd_eq b b'
theorem chI_congr {A : Nat} {KM KM' B B' KW : Nat → Nat} (hA : A ≤ 6) (hK : ∀ j, j < A → KM j = KM' j) (hB : ∀ j, j < 36 → B j = B' j) : ∀ (r k c : Nat) (ch : Nat → Nat) (tk : Nat → Bool) (p : Nat × Nat), k + r = A → (∀ j, j < k → ch j < 6) → chI A KM B KW r k c ch tk p = chI A KM' B' KW r k c ch tk p := by
  intro r
  induction r with
  | zero => intro k c ch tk p _ _; rfl
  | succ r ih =>
    intro k c ch tk p hk hch
    rw [chI, chI]
    refine chR_eq (N := A) (fun a p ha => ?_) A 0 p (by omega)
    have er : mj_rw B ch a k = mj_rw B' ch a k := by
      have w : ∀ m, m ≤ k → mj_rw B ch a m = mj_rw B' ch a m := by
        intro m
        induction m with
        | zero => intro _; rfl
        | succ m ihm =>
          intro hm
          have := hch m (by omega)
          rw [mj_rw, mj_rw, ihm (by omega), hB (a * 6 + ch m) (by omega)]
      exact w k (Nat.le_refl _)
    rw [hK a ha, er, ih (k + 1) _ _ _ p (by omega) (fun j hj => by
      by_cases e : j = k
      · subst e; rw [va_up_self]; omega
      · rw [va_up_ne _ _ e]; exact hch j (by omega))]
section RD
variable {Γ : mj_G} {d L n h : Nat} {S : mj_S} {C : Nat → Int} {rf fp : Int} {KM : Nat → Nat} {acc : List Nat}
def mo_rdP (S' : mj_S) (L : Nat) (C : Nat → Int) (n h : Nat) (KM : Nat → Nat) (acc : List Nat) (z : Int) (R : Int × TS) : Prop :=
  (R.1 ≠ -1 ∧ z = R.1 ∧ mo_IL S' 0 L C (tAt R.2 : Nat) n h KM acc) ∨
  (R.1 = -1 ∧ mo_IL S' 0 L C (-1) n h KM acc ∧ ∀ KM2 BN : Nat → Nat, (∀ j, j < R.2.1 → R.2.2.1 j = KM2 j ∧ KM2 j < 9) → (∀ j, j < 36 → R.2.2.2.2.1 j = BN j ∧ BN j < 4) → mj_inP n h KM acc R.2.1 R.2.2.2.1 KM2 BN z)
theorem m_Mo_read {n0 : Nat} {K0 F0 B0 RA0 RB0 BA0 : Nat → Int} {rm0 : Bool} (hI : mo_IL S rf L C fp n h KM acc) (hck : ∀ i, i < acc.length → ∃ cd : Nat → Nat, acc.getD i 0 = pk cd (pr n 0) ∧ ∀ j, j < pr n 0 → cd j < 4) (hd : 4 ≤ d) :
    mj_Met Γ d y_Mo_read M_Mo_read [.ref 40] S 0 0 (mj_I fun z S' => mj_fr S S' [40, 49, 50, 51, 52, 53, 55, 56, 57] ∧ mo_rdP S' L C n h KM acc z (tRead L C (mj_tr0 n0 K0 F0 B0 RA0 RB0 BA0 rm0))) := by
  obtain ⟨hw, hL, ⟨tr, rs, fo, sg, hst⟩, hl, ⟨El, h39, h39'⟩, ⟨Tl, h40, h40'⟩, hgb, hn6, hh, hal⟩ := hI
  have h1 : S.1 40 = _ := hst
  obtain ⟨Q, hQ⟩ : ∃ Q : Int → mj_S → Prop, Q = (fun (z : Int) (S' : mj_S) => mj_fr S S' [40, 49, 50, 51, 52, 53, 55, 56, 57] ∧ mo_rdP S' L C n h KM acc z (tRead L C (mj_tr0 n0 K0 F0 B0 RA0 RB0 BA0 rm0))) := ⟨_, rfl⟩
  rw [← hQ]
  obtain ⟨Bz, h49⟩ := hgb.1 52 (by omega) (by omega)
  have h49 : S.1 52 = .inl (0, 36, .inl (mj_z Bz)) := h49
  have rr := tRead_r (L := L) (C := C) (t0 := mj_tr0 n0 K0 F0 B0 RA0 RB0 BA0 rm0) tPart_r (tAtom_r 0)
  have fin : ∀ (S' : mj_S) (p : Int) (sg : Int), mj_fr S S' [40, 49, 50, 51, 52, 53, 55, 56, 57] → mo_gb S' → mo_st S' 0 L p n h acc.length tr rs fo sg → mo_IL S' 0 L C p n h KM acc := by
    intro S' p sg' f' gb' st'
    exact ⟨f'.w.trans hw, hL, ⟨_, _, _, _, st'⟩, ⟨f'.at hl.1 (by simp), hl.2⟩, ⟨El, f'.at h39 (by simp), h39'⟩, ⟨Tl, f'.at h40 (by simp), h40'⟩, gb', hn6, hh, hal⟩
  refine mj_Met.of (by decide) ⟨rfl, rfl⟩ rfl rfl rfl ?_
  refine mj_aload_n d_Mo_read_0 rfl ?_
  refine mz_iconst d_Mo_read_1 ?_
  refine mz_put (ci := 9) (j := 0) d_Mo_read_2 rfl w_Mo_85 (by decide) rfl (by omega) (by assumption) (Nat.le_of_ble_eq_true rfl) (mj_fit_int _) rfl (fun S_2 w_2 e_2 f_2 => ?_)
  refine mj_aload_n d_Mo_read_5 rfl ?_
  refine mz_iconst d_Mo_read_6 ?_
  refine mz_put (ci := 9) (j := 19) d_Mo_read_7 rfl w_Mo_167 (by decide) rfl (by omega) (by assumption) (Nat.le_of_ble_eq_true rfl) (mj_fit_int _) rfl (fun S_7 w_7 e_7 f_7 => ?_)
  refine mz_iconst d_Mo_read_10 ?_
  refine mz_ist1 d_Mo_read_11 (rfl) ?_
  have f7 : mj_fr S S_7 [40] := f_2.tr f_7 (by simp) (by simp)
  have fill : ∀ (q j : Nat) (S2 : mj_S) (T : Nat → Int), j + q = 36 → mj_fr S S2 [40, 52] → mo_st S2 0 L fp n h acc.length tr rs fo 0 → S2.1 52 = .inl (0, 36, .inl (mj_z T)) → (∀ i, i < j → T i = 0) → mj_Ok Γ d M_Mo_read 0 0 12 [.ref 40, .int (iZ j)] [] S2 (mj_I Q) := by
    intro q
    induction q with
    | zero =>
      intro j S2 T hj f2 m2 t2 hT
      have : j = 36 := by omega
      subst this
      have m20 : S2.1 40 = _ := m2
      have hw2 := f2.w.trans hw
      have gb2 : mo_gb S2 := by
        refine hgb.fr f2 (by simp) (fun o ho o1 o2 => ?_)
        simp only [List.mem_cons, List.not_mem_nil, or_false] at ho
        have : o = 52 := by omega
        subst this
        exact ⟨_, t2⟩
      obtain ⟨Sg, h48⟩ := gb2.1 51 (by omega) (by omega)
      obtain ⟨PL, h52⟩ := gb2.1 55 (by omega) (by omega)
      obtain ⟨RAz, h53⟩ := gb2.1 56 (by omega) (by omega)
      obtain ⟨RBz, h54⟩ := gb2.1 57 (by omega) (by omega)
      refine mj_iload_n d_Mo_read_12 rfl ?_
      refine mz_bipush d_Mo_read_13 (by decide) ?_
      refine mz_icmp_ge 31 d_Mo_read_15 (by decide) (by omega) (by omega) (fun c_15 => ?_) (fun c_15 => ?_)
      · refine mj_aload_n d_Mo_read_31 rfl ?_
        refine mz_callV0i (ci := 9) d_Mo_read_32 (m_Mo_parse (d := 2) (n0 := n0) (K0 := K0) (F0 := F0) (B0 := B0) (RA0 := RA0) (RB0 := RB0) (BA0 := BA0) (rm0 := rm0) hw2 m2 ⟨f2.at hl.1 (by simp), hl.2⟩ hL h48 t2 hT h52 h53 h54 (by omega)) cw_Mo_parse lk_Mo_170 rfl rfl (by omega) (by assumption) (by omega) rfl (fun z_32 S_32 h_32 => ?_)
        obtain ⟨R, hR⟩ : ∃ R, R = tRead L C (mj_tr0 n0 K0 F0 B0 RA0 RB0 BA0 rm0) := ⟨_, rfl⟩
        rw [← hR] at h_32 rr hQ
        rcases h_32 with ⟨r1, r2, r3, ⟨sg3, r4⟩, r5⟩ | ⟨r1, r2, r3, r4, r5⟩
        · subst r2
          refine mz_ist1 d_Mo_read_35 (rfl) ?_
          refine mj_iload_n d_Mo_read_36 rfl ?_
          refine mz_if_eq 42 d_Mo_read_37 (by decide) (by omega) (fun c_37 => ?_) (fun c_37 => ?_)
          · omega
          · refine mj_iload_n d_Mo_read_40 rfl ?_
            refine mz_iret d_Mo_read_41 rfl (rfl) ?_
            rw [hQ]
            have f3 : mj_fr S S_32 [40, 49, 50, 51, 52, 53, 55, 56, 57] := f2.tr r3 (by simp) (by simp)
            exact ⟨f3, Or.inl ⟨r1, rfl, fin S_32 _ sg3 f3 (gb2.fr r3 (by simp) r5) r4⟩⟩
        · subst r2
          have ga3 := r3.ga
          refine mz_ist1 d_Mo_read_35 (rfl) ?_
          refine mj_iload_n d_Mo_read_36 rfl ?_
          refine mz_if_eq 42 d_Mo_read_37 (by decide) (by omega) (fun c_37 => ?_) (fun c_37 => ?_)
          · obtain ⟨R1, n2, K, F, B, RA, RB, BA, br, la, rm, at_⟩ := R
            have hi0 := r4
            have hj0 := r5
            obtain ⟨f1, hst3, ⟨K', h3, h3'⟩, ⟨B', h4, h4'⟩, -⟩ := r3
            obtain ⟨i1, i2, i3, i4, i5, i6, i7, i8, i9, i10⟩ := r4
            have h13 : S_32.1 40 = _ := hst3
            have gb3 : mo_gb S_32 := gb2.fr f1 (by simp) ga3
            have hw3 := f1.w.trans hw2
            refine mj_aload_n d_Mo_read_42 rfl ?_
            refine mz_iconst d_Mo_read_43 ?_
            refine mz_put (ci := 9) (j := 3) d_Mo_read_44 rfl w_Mo_13 (by decide) rfl (by omega) (by assumption) (Nat.le_of_ble_eq_true rfl) (mj_fit_int _) rfl (fun S_44 w_44 e_44 f_44 => ?_)
            have f4 : mj_fr S S_44 [40, 51, 52, 55, 56, 57] := (f2.tr f1 (l := [40, 51, 52, 55, 56, 57]) (by simp) (by simp)).tr f_44 (by simp) (by simp)
            have gb4 : mo_gb S_44 := gb3.fr f_44 (by simp) (by simp)
            -- what the reader of kinds and bonds is told
            have call : ∀ KM2 BN : Nat → Nat, (∀ j, j < n2 → K j = KM2 j ∧ KM2 j < 9) → (∀ j, j < 36 → B j = BN j ∧ BN j < 4) → mj_Met Γ 3 y_Mo_numberInList M_Mo_numberInList [.ref 40] S_44 0 0 (mj_I fun z S' => mj_fr S_44 S' [49, 50, 53] ∧ (∀ o ∈ [49, 50, 53], 44 ≤ o → o ≤ 63 → mo_ga S' o) ∧ mj_inP n h KM acc n2 F KM2 BN z) := by
              intro KM2 BN q1 q2
              refine m_Mo_numberInList (d := 3) (L := L) (B := B') (T := Tl) (El := El) (Sg := K') (f4.w.trans hw) e_44 (f4.at h39 (by simp)) h39' (f4.at h40 (by simp)) h40' hal hck (f_44.at h3 (by simp)) (fun j hj => ?_) (f_44.at h4 (by simp)) (fun j hj => ?_) gb4 hn6 ⟨i1, i2⟩ hh (fun a ha => ?_) (fun a ha => ?_) (by omega)
              · have := q1 j hj
                rw [h3' j hj]
                exact this
              · have := q2 j hj
                rw [h4' j hj]
                exact this
              · rw [tJ_sum hi0 hj0 h4' ha, (q1 a ha).1, Int.toNat_natCast]
              · have := i8 a ha
                have : at_ ≤ 60 := by omega
                constructor <;> omega
            have hKs : ∀ j, j < n2 → K j = ((K j).toNat : Nat) ∧ (K j).toNat < 9 := fun j hj => by
              obtain ⟨k, k1, k2⟩ := i10 j hj
              omega
            have hBs : ∀ j, j < 36 → B j = ((B j).toNat : Nat) ∧ (B j).toNat < 4 := fun j hj => by
              have := i9 j hj
              omega
            refine mj_aload_n d_Mo_read_47 rfl ?_
            refine mz_callV0i (ci := 9) d_Mo_read_48 (call (fun j => (K j).toNat) (fun j => (B j).toNat) hKs hBs) cw_Mo_numberInList lk_Mo_174 rfl rfl (by omega) (by assumption) (by omega) rfl (fun z_48 S_48 h_48 => ?_)
            obtain ⟨p1, p2, p3⟩ := h_48
            refine mz_iret d_Mo_read_51 rfl (rfl) ?_
            rw [hQ]
            have f5 : mj_fr S S_48 [40, 49, 50, 51, 52, 53, 55, 56, 57] := f4.tr p1 (by simp) (by simp)
            refine ⟨f5, Or.inr ⟨r1, fin S_48 (-1) n2 f5 (gb4.fr p1 (by simp) p2) (p1.at e_44 (by simp)), fun KM2 BN q1 q2 => ?_⟩⟩
            have p3 : mj_inP n h KM acc n2 F (fun j => (K j).toNat) (fun j => (B j).toNat) z_48 := p3
            show mj_inP n h KM acc n2 F KM2 BN z_48
            have e1 : ∀ j, j < n2 → (K j).toNat = KM2 j := fun j hj => by have : K j = KM2 j := (q1 j hj).1; omega
            have e2 : ∀ j, j < 36 → (B j).toNat = BN j := fun j hj => by have : B j = BN j := (q2 j hj).1; omega
            have c1e : ∀ x, mj_cnt (fun i => ((K i).toNat : Int)) x n2 = mj_cnt (fun i => (KM2 i : Int)) x n2 := fun x => mj_cnt_congr n2 (fun i hi => by show ((K i).toNat : Int) = KM2 i; rw [e1 i hi])
            unfold mj_inP at p3 ⊢
            by_cases en : n = n2
            · subst en
              rcases p3 with ⟨a, b⟩ | ⟨a, b⟩
              · refine Or.inl ⟨fun z => a ⟨z.1, z.2.1, fun j hj => ?_⟩, b⟩
                rw [c1e]; exact z.2.2 j hj
              · refine Or.inr ⟨⟨a.1, a.2.1, fun j hj => ?_⟩, ?_⟩
                · rw [← c1e]; exact a.2.2 j hj
                · have ec : chI n (fun j => (K j).toNat) (fun j => (B j).toNat) KM n 0 0 (fun _ => 0) (fun _ => false) (0, 0) = chI n KM2 BN KM n 0 0 (fun _ => 0) (fun _ => false) (0, 0) := chI_congr (by omega) e1 e2 n 0 0 _ _ _ (by omega) (fun j hj => absurd hj (Nat.not_lt_zero j))
                  rw [← ec]
                  exact b
            · rcases p3 with ⟨a, b⟩ | ⟨a, b⟩
              · exact Or.inl ⟨fun z => en z.1, b⟩
              · exact absurd a.1 en
          · omega
      · omega
    | succ q ih =>
      intro j S2 T hj f2 m2 t2 hT
      have m20 : S2.1 40 = _ := m2
      have hw2 := f2.w.trans hw
      refine mj_iload_n d_Mo_read_12 rfl ?_
      refine mz_bipush d_Mo_read_13 (by decide) ?_
      refine mz_icmp_ge 31 d_Mo_read_15 (by decide) (by omega) (by omega) (fun c_15 => ?_) (fun c_15 => ?_)
      · omega
      · refine mj_aload_n d_Mo_read_18 rfl ?_
        refine mj_get (ci := 9) (j := 21) d_Mo_read_19 rfl w_Mo_49 (by decide) (by omega) (by assumption) rfl ?_
        refine mj_iload_n d_Mo_read_22 rfl ?_
        refine mz_iconst d_Mo_read_23 ?_
        refine mz_iast d_Mo_read_24 (by omega) (by assumption) (rfl) (by omega) (fun S_24 w_24 e_24 f_24 => ?_)
        refine mz_inc1 d_Mo_read_25 (rfl) ?_
        refine mj_goto 12 d_Mo_read_28 (by decide) ?_
        have w := ih (j + 1) S_24 _ (by omega) (f2.tr f_24 (by simp) (by simp)) (f_24.at m20 (by simp)) e_24 (fun i hi => by
          by_cases e : i = j
          · subst e; rw [va_up_self]
          · rw [va_up_ne _ _ e]; exact hT i (by omega))
        rw [show ((j + 1 : Nat) : Int) = (j : Int) + 1 by omega] at w
        exact w
  exact fill 36 0 S_7 Bz (by omega) (f7.tr (mj_fr.rf _ []) (by simp) (by simp)) e_7 (f7.at h49 (by simp)) (fun i hi => absurd hi (Nat.not_lt_zero i))
end RD
