/-! mj, part 05: one row an instruction that touches cells. -/
def mj_up (S : mj_S) (a : Nat) (e : mj_E) : mj_S := (va_up S.1 a e, S.2)
theorem mj_up_self (S : mj_S) (a : Nat) (e : mj_E) : (mj_up S a e).1 a = e := va_up_self _ _ _
theorem mj_up_ne (S : mj_S) {a b : Nat} (e : mj_E) (h : b ≠ a) : (mj_up S a e).1 b = S.1 b := va_up_ne _ _ h
theorem mj_up_2 (S : mj_S) (a : Nat) (e : mj_E) : (mj_up S a e).2 = S.2 := rfl
theorem mj_W.get {Γ : mj_G} {S : mj_S} {H : Heap} (h : mj_W Γ S H) {a : Nat} (ha : a < S.2.1) {e : mj_E} (he : S.1 a = e) : va_at Γ.D mj_cl (mj_ad Γ a, mj_e Γ e) H := by
  subst he
  exact h.2.2.2.1 a _ (mj_ws_at ha)
theorem mj_W.put {Γ : mj_G} {S : mj_S} {H H1 : Heap} (h : mj_W Γ S H) {a : Nat} (ha : a < S.2.1) {e : mj_E} (he : va_at Γ.D mj_cl (mj_ad Γ a, mj_e Γ e) H1) (hz : H1.size = H.size) (hq : ∀ q : Nat, q ≠ mj_ad Γ a → H1[q]? = H[q]?) : mj_W Γ (mj_up S a e) H1 := by
  have hD := h.D
  obtain ⟨h1, h2, h3, h4, h5⟩ := h
  refine ⟨hz.trans h1, h2, h3, fun k q hk => ?_, fun k hk => ?_⟩
  · obtain ⟨hk1, rfl⟩ := mj_ws_inv hk
    by_cases e1 : k = a
    · subst e1
      rw [mj_up_self]
      exact he
    · rw [mj_up_ne _ _ e1]
      have hk2 : k < S.2.1 := hk1
      refine (h4 k _ (mj_ws_at hk2)).kept (hq _ fun q => e1 ?_)
      exact hD.1 k a _ _ (mj_ws_at hk2) (mj_ws_at ha) q
  · rw [mj_up_ne _ _ (by omega)]
    exact h5 k hk
theorem mj_S_put {Γ : mj_G} {H0 H H1 : Heap} {locs : List Loc} {a k : Nat} (hS : va_S (mj_A Γ) H0 H locs) (ha : a < mj_st) (hz : H1.size = H.size) (hq : ∀ q : Nat, q ≠ mj_ad Γ a → H1[q]? = H[q]?) : va_S (mj_A Γ) H0 H1 (locs ++ [⟨mj_ad Γ a, k⟩]) :=
  hS.put hz hq (by rw [mj_ad_lt ha]; exact Nat.le_add_right _ _)
section MJ5
variable {Γ : mj_G} {d : Nat} {M : mj_M} {k n pc : Nat} {lv st : List Value} {S : mj_S} {P : mj_O → mj_S → Prop}
/-- the word of a field's entry: its own class's, or a nest mate's -/
def mj_fw (own : String) (idx : Nat) (C nm ds : String) : Prop := Cond.fieldLink own idx C nm ds ∈ mj_tb ∨ Cond.fieldLinkNest own idx C nm ds "IsomerList" ∈ lw_tbl
theorem mj_fw_or {own : String} {idx : Nat} {C nm ds : String} (h : mj_fw own idx C nm ds) : Cond.fieldLink own idx C nm ds ∈ mj_tb ∨ Cond.fieldLinkNest own idx C nm ds "IsomerList" ∈ lw_tbl := h
theorem mj_mem {w : Cond} (i : Nat) (h : lw_tbl[i]? = some w) (g : goodWord w = true) : w ∈ mj_tb := List.mem_filter.mpr ⟨List.mem_of_getElem? h, g⟩
theorem mj_get {idx ci j a : Nat} {q : vw_C} {fs : List Value} {v : Value} (hd : decode M.cc pc = .ok (.getfield idx, 3)) (hq : mj_cl[ci]? = some q) (hw : mj_fw M.own idx (q.2.1 j).1 (q.2.1 j).2.1 (q.2.1 j).2.2.1) (hj : j < q.2.2) (ha : a < S.2.1) (he : S.1 a = .inr (ci, fs)) (hv : fs[j]? = some v)
    (h : mj_Ok Γ d M k n (pc + 3) lv (v :: st) S P) : mj_Ok Γ d M k n pc lv (.ref a :: st) S P := by
  intro p e R s m args below meth c H locs cells slots ls hX hS hW hL hN
  have hv' : (fs.map (mj_v Γ))[j]? = some (mj_v Γ v) := by rw [List.getElem?_map, hv]; rfl
  have he' : (mj_ws Γ S)[a]? = some (mj_ad Γ a, .inr (ci, fs.map (mj_v Γ))) := by rw [mj_ws_at ha, he]; rfl
  have hC := hX.2.2.2.2.2.2.1
  have kk := h p e R s m args below meth c H locs cells slots ls hX hS hW hL hN
  rcases mj_fw_or hw with hw | hw
  · exact va_get hX.1 hX.2.1 (hC.w args) (mj_in ci q hq) hX.2.2.2.2.2.1 hC.K hW.2.2.2.1 a he' hq j hj (hC.w args _ hw) (fun _ h9 => h9) hv' hd kk
  · exact va_getN hX.1 hX.2.1 (hC.w args) (mj_in ci q hq) hX.2.2.2.2.2.1 hC.K hW.2.2.2.1 a he' hq j hj (hC.nF hw args) (fun _ h9 => h9) hv' hd kk
/-- what may be stored into a field of that type -/
def mj_fit (ty : FieldType) (v : Value) : Prop := narrow ty v = v ∧ fits ty v = true
theorem mj_fit_int (x : Int32) : mj_fit .int (.int x) := ⟨rfl, rfl⟩
theorem mj_fit_conc {Γ : mj_G} {ty : FieldType} {v : Value} (h : mj_fit ty v) : mj_fit ty (mj_v Γ v) := by
  cases v with
  | ref a =>
    obtain ⟨h1, h2⟩ := h
    refine ⟨?_, ?_⟩
    · cases ty <;> first | rfl | exact absurd h1 (by simp [narrow])
    · cases ty <;> first | rfl | exact absurd h2 (by simp [fits])
  | _ => exact h
theorem mj_put {idx ci j a : Nat} {q : vw_C} {fs fs' : List Value} {v : Value} (hd : decode M.cc pc = .ok (.putfield idx, 3)) (hq : mj_cl[ci]? = some q) (hw : mj_fw M.own idx (q.2.1 j).1 (q.2.1 j).2.1 (q.2.1 j).2.2.1) (hj : j < q.2.2)
    (hfin : (q.2.1 j).2.2.2 = false ∨ (M.name = "<init>" ∧ (q.2.1 j).1 = M.own ∧ (Cond.fieldLink M.own idx (q.2.1 j).1 (q.2.1 j).2.1 (q.2.1 j).2.2.1) ∈ mj_tb)) (ha : a < S.2.1) (he : S.1 a = .inr (ci, fs)) (hl : j < fs.length) (hfit : mj_fit (mj_t ci j) v) (hs : fs.set j v = fs')
    (h : mj_Ok Γ d M k n (pc + 3) lv st (mj_up S a (.inr (ci, fs'))) P) : mj_Ok Γ d M k n pc lv (v :: .ref a :: st) S P := by
  subst hs
  intro p e R s m args below meth c H locs cells slots ls hX hS hW hL hN
  have hC := hX.2.2.2.2.2.2.1
  have hown := hX.2.2.2.2.2.1
  have hP := hW.2.2.2.1
  have hts := hC.w args
  have hin := mj_in ci q hq
  have has : a < mj_st := Nat.lt_of_lt_of_le ha hW.2.2.1
  obtain ⟨C, T, N⟩ := q
  have hap := va_apart (own := M.own) hts hin (mj_t ci) (mj_ty ci _ hq) (mj_nm ci _ hq) hC.K hq
  have hat := hW.get ha he
  obtain ⟨r, h1, cell, q1, q2, q3, q4⟩ := hat
  have hr : r = (C, T, N) := Option.some.inj (h1.symm.trans hq)
  subst hr
  obtain ⟨hS9, hfc, kC, hkC, hkind⟩ := hC.K.1 ci _ hq
  obtain ⟨cf, kf, fi, f, hi, hsl⟩ := hS9 j hj
  have hst := (u_facts hfc hkC (u_lays hts hin hj) hi).1
  have hfit' := mj_fit_conc (Γ := Γ) hfit
  have hty : parseFieldDescriptor (T j).2.2.1 = some (mj_t ci j) := mj_ty ci _ hq j hj
  have hlen : j < (fs.map (mj_v Γ)).length := by rw [List.length_map]; exact hl
  have fin : ∀ H' : Heap, H'[mj_ad Γ a]? = some (cell.setSlot f.slot (mj_v Γ v)) → H'.size = H.size → (∀ q, q ≠ mj_ad Γ a → H'[q]? = H[q]?) →
      W p Γ.l e R s m args below meth c H' (locs ++ [⟨mj_ad Γ a, f.slot⟩]) cells slots (mj_Q Γ below s (cells + k) (slots + n) P) (F0 m (pc + 3) ls (st.map (mj_v Γ))) := by
    intro H' e1 e2 e3
    rw [hsl] at e1 ⊢
    refine h p e R s m args below meth c H' _ cells slots ls hX (mj_S_put hS has e2 e3) (hW.put ha ?_ e2 e3) hL hN
    refine ⟨_, hq, t_OB.to (V := updV (vp_V (fs.map (mj_v Γ))) j (mj_v Γ v)) ⟨_, e1, q2, q3, t_set q4 hap hj (mj_v Γ v)⟩ (fun i _ => ?_)⟩
    rw [vp_updV_set hlen, List.map_set]
  have hlay0 := hts _ (hin _ (u_in_lay hj))
  rcases hfin with hf | ⟨hf1, hf2, hf3⟩
  · have hlay := hlay0
    unfold u_lay at hlay
    rw [if_neg (by rw [hf]; decide)] at hlay
    have h6 := u_store hfc hkC hkind hlay hi hty hfit'.1 hfit'.2
    rcases mj_fw_or hw with hw | hw
    · exact W.putK hX.1 hX.2.1 (f := f) ⟨hown, hts _ hw, ⟨_, _, _, hi⟩, hst⟩ (by rw [q2]; exact h6) q1 q3 (by rw [hsl]; exact k2_hasslot (q4 j hj)) rfl rfl hd fin
    · exact va_WputK hX.1 hX.2.1 hown (hC.nF hw args) hi hst (by rw [q2]; exact h6) q1 q3 (by rw [hsl]; exact k2_hasslot (q4 j hj)) rfl rfl hd fin
  · cases hfb : (T j).2.2.2 with
    | false =>
      have hlay := hlay0
      unfold u_lay at hlay
      rw [if_neg (by rw [hfb]; decide)] at hlay
      have h6 := u_store hfc hkC hkind hlay hi hty hfit'.1 hfit'.2
      rcases mj_fw_or hw with hw | hw
      · exact W.putK hX.1 hX.2.1 (f := f) ⟨hown, hts _ hw, ⟨_, _, _, hi⟩, hst⟩ (by rw [q2]; exact h6) q1 q3 (by rw [hsl]; exact k2_hasslot (q4 j hj)) rfl rfl hd fin
      · exact va_WputK hX.1 hX.2.1 hown (hC.nF hw args) hi hst (by rw [q2]; exact h6) q1 q3 (by rw [hsl]; exact k2_hasslot (q4 j hj)) rfl rfl hd fin
    | true =>
      have hlay := hlay0
      unfold u_lay at hlay
      rw [if_pos hfb] at hlay
      have hcf : m.cls = cf := by
        obtain ⟨_, _, c', _, _, _, -, -, hf', -, -, -, hown2, -⟩ := Cond.laysFinal_spec hlay
        have e1 : c' = cf := by have := hi.symm.trans hf'; simp at this; exact this.1.symm
        have hf2' : (T j).1 = M.own := hf2
        rw [hf2'] at hown2
        rw [← e1]; exact Option.some.inj (hown.symm.trans hown2)
      have h6 := u_fits hfc hkC hkind (Or.inr hlay) hi hty hfit'.1 hfit'.2
      have hin2 : meth.name = "<init>" := hX.2.2.2.2.2.2.2.2.2.2.2.1.trans hf1
      exact W.putFinK hX.1 hX.2.1 hown (hts _ hf3) hi hst hcf hin2 (by rw [q2]; exact h6) q1 q3 (by rw [hsl]; exact k2_hasslot (q4 j hj)) rfl rfl hd fin
end MJ5
