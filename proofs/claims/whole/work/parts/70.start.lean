/-! the law's start: what the Statement gives, as the logic wants it -/
theorem st_sub {s t : State} {Ls : List Loc} {c n c' n' : Nat} (h : s.sameButNew t Ls c n) (hA : ∀ q ∈ Ls, s.heap.size ≤ q.base) (hc : c ≤ c') (hn : n ≤ n') : s.sameButNew t [] c' n' := by
  obtain ⟨h1, h2, h3, h4, h5, h6⟩ := h
  refine ⟨h1, h2, Nat.le_trans h3 (by omega), h4, Nat.le_trans h5 hn, fun a cell ha => ?_⟩
  obtain ⟨c1, q1, q2, q3, q4⟩ := h6 a cell ha
  refine ⟨c1, q1, q2, q3, fun i _ => q4 i (fun hm => ?_)⟩
  have h7 : s.heap.size ≤ a := hA _ hm
  have hl : a < s.heap.size := (Array.getElem?_eq_some_iff.mp ha).1
  exact absurd hl (Nat.not_lt.mpr h7)
theorem st_arr {s : State} {ty : FieldType} (hp : ∀ C, ty ≠ .object C) {args : Array Value} (h : (Cond.arrayClass ty).before args s = true) : ∃ cA : ClassId, ArrOfT s cA ty ∧ va_RA s cA ty := by
  obtain ⟨cA, kA, comp, h1, h2, h3⟩ := Cond.arrayClass_spec h
  refine ⟨cA, fun n z => ⟨fun k h => (by cases h), kA, h2, comp, h3⟩, ?_⟩
  unfold va_RA
  split
  · exact absurd rfl (hp _)
  · exact h1
def st_nar : List Cond := flatC (Jvm.Cond.and given_1 narrow_1)
theorem st_VAL : ∀ j, j < 10 → Cond.eq (.elem (.static "IsomerList" "VALENCES" "[I") (.int (Int32.ofNat j))) (.int (iZ (mj_VAL j))) ∈ st_nar := by decide +kernel
theorem st_FST : ∀ j, j < 10 → Cond.eq (.elem (.static "IsomerList" "FIRST_LETTERS" "[C") (.int (Int32.ofNat j))) (.int (iZ (mj_FST j))) ∈ st_nar := by decide +kernel
theorem st_SND : ∀ j, j < 10 → Cond.eq (.elem (.static "IsomerList" "SECOND_LETTERS" "[C") (.int (Int32.ofNat j))) (.int (iZ (mj_SND j))) ∈ st_nar := by decide +kernel
theorem st_nw : ∀ w ∈ mj_nw, w ∈ st_nar := by decide +kernel
/-- the tables of the class, where they lie and what they hold -/
theorem st_tab {s : State} {args : Array Value} {nm ds : String} {ty : FieldType} {A : Nat → Int} (hgv : (Jvm.Cond.and given_1 narrow_1).before args s = true) (harr : Cond.arrayOf (.static "IsomerList" nm ds) ty ∈ st_nar) (hlen : Cond.eq (.length (.static "IsomerList" nm ds)) (.int 10) ∈ st_nar) (hel : ∀ j, j < 10 → Cond.eq (.elem (.static "IsomerList" nm ds) (.int (Int32.ofNat j))) (.int (iZ (A j))) ∈ st_nar) (hl : (Cond.laysStatic "IsomerList" nm ds).before args s = true) (hini : (Cond.initialized "IsomerList").before args s = true) :
    ∃ t : Nat, va_Z "IsomerList" nm ds (.ref t) (fun q => s.heap.size ≤ q) s s.heap ∧ va_T ty t 10 (fun j => .int (mj_ai (10, .inl (mj_z A)) j)) (fun q => s.heap.size ≤ q) s s.heap := by
  have hs := flat_of_before _ hgv
  have hA : ∀ a : Nat, a < s.heap.size → ¬ (fun q : Nat => s.heap.size ≤ q) a := fun a ha => Nat.not_le.mpr ha
  obtain ⟨t, h1, h2⟩ := va_Tof (N := 10) (f := fun j => .int (iZ (A j))) (by decide) (hs _ harr) (va_eqt (hs _ hlen)) (fun j hj => va_eqt (hs _ (hel j hj))) hA
  exact ⟨t, va_Zof hl hini h1 hA, h2⟩
set_option maxHeartbeats 4000000 in
/-- all that the law's start gives -/
theorem st_all (l : Launch) (hadm : ∀ e : Env, l.admits e → e.platform.stackTraces = false) {s : State} {b L : Nat} {xs : Nat → Int32} (hts : ∀ w ∈ lw_tbl, w.before #[Value.ref b] s = true) (hX : va_X b L xs s s.heap) (hbl : b < s.heap.size) (hgv : (Jvm.Cond.and given_1 narrow_1).before #[Value.ref b] s = true) :
    ∃ Γ : mj_G, Γ.l = l ∧ Γ.s = s ∧ Γ.ra 3 = b ∧ mj_tab Γ ∧ Γ.ro 3 = (L, .inl (mj_z fun j => (xs j).toInt)) ∧ mj_F Γ := by
  have hA : ∀ a : Nat, a < s.heap.size → ¬ (fun q : Nat => s.heap.size ≤ q) a := fun a ha => Nat.not_le.mpr ha
  have hw : ∀ w, w ∈ mj_tb → w.before #[Value.ref b] s = true := fun w h => hts w (List.mem_filter.mp h).1
  obtain ⟨a0, ha0⟩ := st_arr (ty := .int) (fun C => by simp) (hw _ ac_I)
  obtain ⟨a1, ha1⟩ := st_arr (ty := .char) (fun C => by simp) (hw _ ac_C)
  obtain ⟨a2, ha2⟩ := st_arr (ty := .boolean) (fun C => by simp) (hw _ ac_Z)
  obtain ⟨a3, ha3⟩ := st_arr (ty := .long) (fun C => by simp) (hw _ ac_J)
  obtain ⟨k0, i0, K0⟩ := u_known (C := mj_R0) (T := mj_T0) (N := 9) (n := 9) (ws := mj_tb) hw mj_in0 (hw _ ia_IL)
  obtain ⟨k1, i1, K1⟩ := u_known (C := mj_R1) (T := mj_T1) (N := 2) (n := 2) (ws := mj_tb) hw mj_in1 (hw _ ia_Ln)
  obtain ⟨k2, i2, K2⟩ := u_known (C := mj_R2) (T := mj_T2) (N := 2) (n := 2) (ws := mj_tb) hw mj_in2 (hw _ ia_Fr)
  obtain ⟨k3, i3, K3⟩ := u_known (C := mj_R3) (T := mj_T3) (N := 8) (n := 8) (ws := mj_tb) hw mj_in3 (hw _ ia_Tr)
  obtain ⟨k4, i4, K4⟩ := u_known (C := mj_R4) (T := mj_T4) (N := 4) (n := 4) (ws := mj_tb) hw mj_in4 (hw _ ia_Ml)
  obtain ⟨k5, i5, K5⟩ := u_known (C := mj_R5) (T := mj_T5) (N := 4) (n := 4) (ws := mj_tb) hw mj_in5 (hw _ ia_Tw)
  obtain ⟨k6, i6, K6⟩ := u_known (C := mj_R6) (T := mj_T6) (N := 5) (n := 5) (ws := mj_tb) hw mj_in6 (hw _ ia_Nu)
  obtain ⟨k7, i7, K7⟩ := u_known (C := mj_R7) (T := mj_T7) (N := 5) (n := 5) (ws := mj_tb) hw mj_in7 (hw _ ia_Ls)
  obtain ⟨k8, i8, K8⟩ := u_known (C := mj_R8) (T := mj_T8) (N := 5) (n := 5) (ws := mj_tb) hw mj_in8 (hw _ ia_Ca)
  obtain ⟨k9, i9, K9⟩ := u_known (C := mj_R9) (T := mj_T9) (N := 33) (n := 33) (ws := mj_tb) hw mj_in9 (hw _ ia_Mo)
  obtain ⟨dC, dI, hKc⟩ : ∃ (dC : Nat → ClassId) (dI : Nat → Nat → Nat), ∀ (k : Nat) (q : vw_C), mj_cl[k]? = some q → u_Kn s q.1 q.2.1 q.2.2 (dC k) (dI k) := by
    refine ⟨fun k => match k with | 0 => k0 | 1 => k1 | 2 => k2 | 3 => k3 | 4 => k4 | 5 => k5 | 6 => k6 | 7 => k7 | 8 => k8 | _ => k9, fun k => match k with | 0 => i0 | 1 => i1 | 2 => i2 | 3 => i3 | 4 => i4 | 5 => i5 | 6 => i6 | 7 => i7 | 8 => i8 | _ => i9, ?_⟩
    intro k q hq
    match k, hq with
    | 0, hq => cases hq; exact K0
    | 1, hq => cases hq; exact K1
    | 2, hq => cases hq; exact K2
    | 3, hq => cases hq; exact K3
    | 4, hq => cases hq; exact K4
    | 5, hq => cases hq; exact K5
    | 6, hq => cases hq; exact K6
    | 7, hq => cases hq; exact K7
    | 8, hq => cases hq; exact K8
    | 9, hq => cases hq; exact K9
    | k + 10, hq => simp [mj_cl] at hq
  obtain ⟨t0, z0, y0⟩ := st_tab (nm := "VALENCES") (ds := "[I") (ty := .int) (A := mj_VAL) hgv (by decide +kernel) (by decide +kernel) st_VAL (hts _ (List.mem_of_getElem? (i := 399) (by decide +kernel))) (hw _ ini_IL)
  obtain ⟨t1, z1, y1⟩ := st_tab (nm := "FIRST_LETTERS") (ds := "[C") (ty := .char) (A := mj_FST) hgv (by decide +kernel) (by decide +kernel) st_FST (hts _ (List.mem_of_getElem? (i := 342) (by decide +kernel))) (hw _ ini_IL)
  obtain ⟨t2, z2, y2⟩ := st_tab (nm := "SECOND_LETTERS") (ds := "[C") (ty := .char) (A := mj_SND) hgv (by decide +kernel) (by decide +kernel) st_SND (hts _ (List.mem_of_getElem? (i := 348) (by decide +kernel))) (hw _ ini_IL)
  obtain ⟨scr, s1, s2, s3, s4, s5⟩ := hX
  refine ⟨(l, s, (dC, dI), (fun k => match k with | 0 => a0 | 1 => a1 | 2 => a2 | _ => a3), (fun k => match k with | 0 => t0 | 1 => t1 | 2 => t2 | _ => b), fun k => match k with | 0 => (10, .inl (mj_z mj_VAL)) | 1 => (10, .inl (mj_z mj_FST)) | 2 => (10, .inl (mj_z mj_SND)) | _ => (L, .inl (mj_z fun j => (xs j).toInt))), rfl, rfl, rfl, ⟨rfl, rfl, rfl⟩, rfl, ⟨_, hts⟩, ⟨hKc, fun k q hq => ?_⟩, fun k hk => ?_, fun k hk => ?_, ⟨#[Value.ref b], fun w h => flat_of_before _ hgv w (st_nw w h)⟩, hadm⟩
  · match k, hq with
    | 0, hq => cases hq; exact ha0
    | 1, hq => cases hq; exact ha1
    | 2, hq => cases hq; exact ha2
    | 3, hq => cases hq; exact ha3
    | k + 4, hq => simp at hq
  · match k, hk with
    | 0, _ => exact z0
    | 1, _ => exact z1
    | 2, _ => exact z2
    | k + 3, hk => omega
  · match k, hk with
    | 0, _ => exact y0
    | 1, _ => exact y1
    | 2, _ => exact y2
    | 3, _ =>
      refine ⟨scr, s1, s2, s3, by rw [s4]; exact Nat.le_refl _, by rw [s4]; rfl, fun j hj => ?_, hA b hbl⟩
      rw [s5 j hj]
      show some (Value.int (xs j)) = some (Value.int (iZ (xs j).toInt))
      rw [show iZ (xs j).toInt = xs j from Int32.ofInt_toInt _]
    | k + 4, hk => omega
