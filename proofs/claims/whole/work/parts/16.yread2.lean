/-! Y: reading the text -/
section
variable {y_size : Int32} {y_pairs : Int32} {y_open : Int32} {y_formCount : Int32} {y_places : Int32} {y_procedures : Int32} {y_continuationCount : Int32} {y_things : Int32} {y_foundCount : Int32} {y_argumentCount : Int32} {y_value : Int64} {y_form : Int64} {y_wherein : Int32} {y_next : Int32} {y_working : Int32} {y_ending : Int32} {y_counts : Int32} {y_made : Int32} {y_entered : Int32} {y_printCount : Int32} {y_itemCount : Int32} {y_text : Nat → Int32} {y_firsts : Nat → Int64} {y_rests : Nat → Int64} {y_heads : Nat → Int32} {y_lasts : Nat → Int32} {y_globals : Nat → Int64} {y_placeNames : Nat → Int32} {y_placeValues : Nat → Int64} {y_placeNexts : Nat → Int32} {y_procedureForms : Nat → Int64} {y_procedurePlaces : Nat → Int32} {y_continuations : Nat → Int32} {y_whats : Nat → Int32} {y_withs : Nat → Int64} {y_whereins : Nat → Int32} {y_soFars : Nat → Int32} {y_afters : Nat → Int32} {y_found : Nat → Int64} {y_foundNexts : Nat → Int32} {y_arguments : Nat → Int64} {y_prints : Nat → Int32} {y_itemKinds : Nat → Int32} {y_itemNumbers : Nat → Int32} {y_pile : Nat → Int64}
variable {T : Nat → Nat} {n : Nat}
theorem pz_ww_s {t : Nat} {k : Nat} (h : pz_dd T (t + 1) = 0 ↔ k = 0) (h2 : T t ≠ 2) : pz_ww T (t + 1) = if k = 0 then pz_ww T t + 1 else pz_ww T t := by
  rw [pz_ww]
  by_cases c : k = 0
  · rw [if_pos ⟨h.mpr c, h2⟩, if_pos c]
  · rw [if_neg (fun z => c (h.mp z.1)), if_neg c]
theorem ys_atom {post : Int64 → Prop} {t : Nat} (ht : zv_tk t) (h3 : 3 ≤ t) (h : post (zv_yA t)) : wpY_atom post (y_size, y_pairs, y_open, y_formCount, y_places, y_procedures, y_continuationCount, y_things, y_foundCount, y_argumentCount, y_value, y_form, y_wherein, y_next, y_working, y_ending, y_counts, y_made, y_entered, y_printCount, y_itemCount, y_text, y_firsts, y_rests, y_heads, y_lasts, y_globals, y_placeNames, y_placeValues, y_placeNexts, y_procedureForms, y_procedurePlaces, y_continuations, y_whats, y_withs, y_whereins, y_soFars, y_afters, y_found, y_foundNexts, y_arguments, y_prints, y_itemKinds, y_itemNumbers, y_pile) (nI t) := by
  unfold zv_tk at ht
  unfold zv_yA at h
  by_cases c : t < 10
  · rw [if_pos c] at h
    refine br_f (nI_ge (b := 10) c (by decide)) ?_
    by_cases c3 : t = 3
    · subst c3
      exact br_t rfl (ys_thing (t := 1) (k := 1) rfl rfl (by decide) (by decide) h)
    · rw [if_neg c3] at h
      exact br_f (fun z => c3 ((nI_eq (a := t) (b := 3) (by omega) (by omega)).mp z)) (ys_thing (t := 1) (k := 0) rfl rfl (by decide) (by decide) h)
  · rw [if_neg c] at h
    refine br_t (nI_le (a := 10) (by omega) (by omega)) ?_
    by_cases c3 : t < 30
    · rw [if_pos c3] at h
      exact br_f (nI_ge (b := 30) c3 (by decide)) (ys_thing (t := 0) (k := t - 10) rfl (pk_sub (a := t) (b := 10) (by omega)) (by decide) (by omega) h)
    · rw [if_neg c3] at h
      exact br_t (nI_le (a := 30) (by omega) (by omega)) (ys_thing (t := 4) (k := t) rfl rfl (by decide) (by omega) h)
theorem ys_openList {post : SY → Prop} {m : Nat} {z : Int32} (h : m < 72) (hp : post (y_size, y_pairs, nI (m + 1), y_formCount, y_places, y_procedures, y_continuationCount, y_things, y_foundCount, y_argumentCount, y_value, y_form, y_wherein, y_next, y_working, y_ending, y_counts, y_made, y_entered, y_printCount, y_itemCount, y_text, y_firsts, y_rests, upd y_heads m z, upd y_lasts m (-1), y_globals, y_placeNames, y_placeValues, y_placeNexts, y_procedureForms, y_procedurePlaces, y_continuations, y_whats, y_withs, y_whereins, y_soFars, y_afters, y_found, y_foundNexts, y_arguments, y_prints, y_itemKinds, y_itemNumbers, y_pile)) : wpY_openList post (y_size, y_pairs, nI m, y_formCount, y_places, y_procedures, y_continuationCount, y_things, y_foundCount, y_argumentCount, y_value, y_form, y_wherein, y_next, y_working, y_ending, y_counts, y_made, y_entered, y_printCount, y_itemCount, y_text, y_firsts, y_rests, y_heads, y_lasts, y_globals, y_placeNames, y_placeValues, y_placeNexts, y_procedureForms, y_procedurePlaces, y_continuations, y_whats, y_withs, y_whereins, y_soFars, y_afters, y_found, y_foundNexts, y_arguments, y_prints, y_itemKinds, y_itemNumbers, y_pile) z := by
  have hi : vp_in (nI m) 72 := vp_in_nI h (by decide)
  have e : (nI m).toNatClampNeg = m := nI_clamp (by omega)
  exact ⟨hi, nm_r (cl_I e) ⟨hi, nm_r (cl_I e) (nm_r (nI_1 m) hp)⟩⟩
theorem ys_rd {post : Int32 → SY → Prop} (hn : n ≤ 70) (hT : ∀ i, i < n → zv_tk (T i) ∧ y_text i = nI (T i))
    (h1 : pz_Rd T n → ∀ F R H L, yr_H T n n F R → (0 < n → H 0 = nI (pz_AY T n 0 0)) → pz_P T n ≤ 2 * n → post 1 (nI n, nI (pz_P T n), 1, nI (pz_ww T n), y_places, y_procedures, y_continuationCount, y_things, y_foundCount, y_argumentCount, y_value, y_form, y_wherein, y_next, y_working, y_ending, y_counts, y_made, y_entered, y_printCount, y_itemCount, y_text, F, R, H, L, y_globals, y_placeNames, y_placeValues, y_placeNexts, y_procedureForms, y_procedurePlaces, y_continuations, y_whats, y_withs, y_whereins, y_soFars, y_afters, y_found, y_foundNexts, y_arguments, y_prints, y_itemKinds, y_itemNumbers, y_pile))
    (h2 : ¬ pz_Rd T n → ∀ a b c F R H L, post 0 (nI n, a, b, c, y_places, y_procedures, y_continuationCount, y_things, y_foundCount, y_argumentCount, y_value, y_form, y_wherein, y_next, y_working, y_ending, y_counts, y_made, y_entered, y_printCount, y_itemCount, y_text, F, R, H, L, y_globals, y_placeNames, y_placeValues, y_placeNexts, y_procedureForms, y_procedurePlaces, y_continuations, y_whats, y_withs, y_whereins, y_soFars, y_afters, y_found, y_foundNexts, y_arguments, y_prints, y_itemKinds, y_itemNumbers, y_pile)) :
    ∀ d t, t + d = n → (∀ j, j < t → pz_ok T j) → ∀ m o H L F R, 1 ≤ m → m ≤ t + 1 → o m = t → (∀ k, k ≤ m → o k ≤ t) → (∀ k, k < m → yr_sg T n o H L k) → yr_H T n t F R → pz_P T t + 2 * m ≤ 2 * t + 2 →
      wY_read_22 post (d + 1) (nI t) (nI n) (nI (pz_P T t)) (nI m) (nI (pz_ww T t)) y_places y_procedures y_continuationCount y_things y_foundCount y_argumentCount y_value y_form y_wherein y_next y_working y_ending y_counts y_made y_entered y_printCount y_itemCount y_text F R H L y_globals y_placeNames y_placeValues y_placeNexts y_procedureForms y_procedurePlaces y_continuations y_whats y_withs y_whereins y_soFars y_afters y_found y_foundNexts y_arguments y_prints y_itemKinds y_itemNumbers y_pile := by
  have hP := pz_P_le (T := T) n hn
  intro d
  induction d with
  | zero =>
    intro t ht hok m o H L F R m1 m2 om ho hs hH hB
    have htn : t = n := by omega
    subst htn
    refine br_t (nI_le (Nat.le_refl _) (by omega)) ?_
    by_cases c : m = 1
    · subst c
      have s0 := hs 0 (by omega)
      have top := yr_top0 s0
      rw [om] at top
      refine br_t rfl (h1 ⟨hok, top⟩ F R H L hH (fun hn0 => ?_) (by omega))
      rcases s0 with ⟨a, _⟩ | ⟨_, _, _, _, ⟨a, _⟩ | ⟨e, p, a1, a2, a3, a4, a5, a6, a7⟩⟩
      · omega
      · have h0 : 0 = o 1 := a
        omega
      · exact a6
    · refine br_f (fun z => c ((nI_eq (a := m) (b := 1) (by omega) (by omega)).mp z)) (h2 (fun hR => ?_) _ _ _ F R H L)
      have sk := hs (m - 1) (by omega)
      have om' : o (m - 1 + 1) = t := by rw [show m - 1 + 1 = m by omega]; exact om
      by_cases hne : H (m - 1) = -2
      · have := yr_topq sk hne (by omega) (by omega)
        rw [om'] at this
        exact hR.2.2 this
      · have := yr_topl sk hne (by omega)
        rw [om', hR.2.1] at this
        omega
  | succ d ih =>
    intro t ht hok m o H L F R m1 m2 om ho hs hH hB
    obtain ⟨tk, te⟩ := hT t (by omega)
    have tl : T t < 100 := by unfold zv_tk at tk; omega
    have ec : (nI t).toNatClampNeg = t := nI_clamp (by omega)
    have okn : pz_ok T t → ∀ j, j < t + 1 → pz_ok T j := by
      intro z j hj
      by_cases y : j = t
      · rw [y]; exact z
      · exact hok j (by omega)
    refine br_f (nI_ge (by omega) (by omega)) ⟨vp_in_nI (by omega) (by decide), nm_r ((cl_R ec).trans te) ?_⟩
    -- a token that begins something
    have hbeg : ∀ z, (T t = 0 ∧ z = -1) ∨ (T t = 2 ∧ z = -2) → wY_read_57 post (wY_read_22 post (d + 1)) (nI t) z (nI n) (nI (pz_P T t)) (nI m) (nI (pz_ww T t)) y_places y_procedures y_continuationCount y_things y_foundCount y_argumentCount y_value y_form y_wherein y_next y_working y_ending y_counts y_made y_entered y_printCount y_itemCount y_text F R H L y_globals y_placeNames y_placeValues y_placeNexts y_procedureForms y_procedurePlaces y_continuations y_whats y_withs y_whereins y_soFars y_afters y_found y_foundNexts y_arguments y_prints y_itemKinds y_itemNumbers y_pile := by
      intro z hz
      unfold wY_read_57
      refine ys_openList (by omega) (nm_r (nI_1 t) ?_)
      have hPs : pz_P T (t + 1) = pz_P T t := by rw [pz_P, if_pos (by omega)]; rfl
      have hws : pz_ww T (t + 1) = pz_ww T t := by
        rw [pz_ww, if_neg]
        intro y
        rcases hz with hz | hz
        · rw [pz_dd_o hz.1] at y; omega
        · exact y.2 hz.1
      have := ih (t + 1) (by omega) (okn (fun y => by omega)) (m + 1) (fun i => if i = m + 1 then t + 1 else o i) (upd H m z) (upd L m (-1)) F R (by omega) (by omega) (if_pos rfl)
        (fun k hk => by
          split
          · omega
          · have := ho k (by omega); omega)
        (fun k hk => by
          by_cases y : k = m
          · subst y
            have e1 : (fun i => if i = k + 1 then t + 1 else o i) k = t := by
              dsimp only
              rw [if_neg (by omega), om]
            have e2 : (fun i => if i = k + 1 then t + 1 else o i) (k + 1) = t + 1 := if_pos rfl
            have e3 : yr_s (fun i => if i = k + 1 then t + 1 else o i) k = t + 1 := by
              unfold yr_s
              rw [if_neg (by omega), e1]
            unfold yr_sg
            rw [e1, e2, e3, pk_us, pk_us]
            rcases hz with ⟨z1, z2⟩ | ⟨z1, z2⟩
            · exact Or.inr ⟨Or.inr z1, Nat.le_refl _, rfl, fun j j1 j2 => by rw [show j = t + 1 by omega]; exact Nat.le_refl _, Or.inl ⟨rfl, z2, rfl⟩⟩
            · exact Or.inl ⟨m1, z1, z2, rfl⟩
          · exact yr_sg_low (hs k (by omega)) (if_neg (by omega)) (if_neg (by omega)) (pk_un y) (pk_un y))
        (yr_Hs hH (by omega)) (by omega)
      rw [hPs, hws] at this
      exact this
    have hput : ∀ m' b, m' ≤ m → 1 ≤ m' → o m' = b → pz_ok T t → T t ≠ 2 → ((3 ≤ T b ∧ t + 1 = b + 1) ∨ (T b = 0 ∧ b + 1 < t + 1 ∧ T (t + 1 - 1) = 1 ∧ pz_dd T (t + 1) = pz_dd T b ∧ ∀ j, b < j → j < t + 1 → pz_dd T b < pz_dd T j)) →
        wpY_put (fun u => match u with | (y_size, y_pairs, y_open, y_formCount, y_places, y_procedures, y_continuationCount, y_things, y_foundCount, y_argumentCount, y_value, y_form, y_wherein, y_next, y_working, y_ending, y_counts, y_made, y_entered, y_printCount, y_itemCount, y_text, y_firsts, y_rests, y_heads, y_lasts, y_globals, y_placeNames, y_placeValues, y_placeNexts, y_procedureForms, y_procedurePlaces, y_continuations, y_whats, y_withs, y_whereins, y_soFars, y_afters, y_found, y_foundNexts, y_arguments, y_prints, y_itemKinds, y_itemNumbers, y_pile) => ∀ x : Int32, x = nI t + 1 → wY_read_22 post (d + 1) x y_size y_pairs y_open y_formCount y_places y_procedures y_continuationCount y_things y_foundCount y_argumentCount y_value y_form y_wherein y_next y_working y_ending y_counts y_made y_entered y_printCount y_itemCount y_text y_firsts y_rests y_heads y_lasts y_globals y_placeNames y_placeValues y_placeNexts y_procedureForms y_procedurePlaces y_continuations y_whats y_withs y_whereins y_soFars y_afters y_found y_foundNexts y_arguments y_prints y_itemKinds y_itemNumbers y_pile) (nI n, nI (pz_P T t), nI m', nI (pz_ww T t), y_places, y_procedures, y_continuationCount, y_things, y_foundCount, y_argumentCount, y_value, y_form, y_wherein, y_next, y_working, y_ending, y_counts, y_made, y_entered, y_printCount, y_itemCount, y_text, F, R, H, L, y_globals, y_placeNames, y_placeValues, y_placeNexts, y_procedureForms, y_procedurePlaces, y_continuations, y_whats, y_withs, y_whereins, y_soFars, y_afters, y_found, y_foundNexts, y_arguments, y_prints, y_itemKinds, y_itemNumbers, y_pile) (cd_yv T n b) := by
      intro m' b g1 g2 g3 g4 g5 g6
      obtain ⟨k, rfl⟩ : ∃ k, m' = k + 1 := ⟨m' - 1, by omega⟩
      have hl := ys_put_l (post := fun u => match u with | (y_size, y_pairs, y_open, y_formCount, y_places, y_procedures, y_continuationCount, y_things, y_foundCount, y_argumentCount, y_value, y_form, y_wherein, y_next, y_working, y_ending, y_counts, y_made, y_entered, y_printCount, y_itemCount, y_text, y_firsts, y_rests, y_heads, y_lasts, y_globals, y_placeNames, y_placeValues, y_placeNexts, y_procedureForms, y_procedurePlaces, y_continuations, y_whats, y_withs, y_whereins, y_soFars, y_afters, y_found, y_foundNexts, y_arguments, y_prints, y_itemKinds, y_itemNumbers, y_pile) => ∀ x : Int32, x = nI t + 1 → wY_read_22 post (d + 1) x y_size y_pairs y_open y_formCount y_places y_procedures y_continuationCount y_things y_foundCount y_argumentCount y_value y_form y_wherein y_next y_working y_ending y_counts y_made y_entered y_printCount y_itemCount y_text y_firsts y_rests y_heads y_lasts y_globals y_placeNames y_placeValues y_placeNexts y_procedureForms y_procedurePlaces y_continuations y_whats y_withs y_whereins y_soFars y_afters y_found y_foundNexts y_arguments y_prints y_itemKinds y_itemNumbers y_pile) (y_size := nI n) (fc := pz_ww T t) hn (show t + 1 ≤ n by omega) g6 (fun i hi => hs i (show i < m by omega)) (fun i hi => ho i (show i ≤ m by omega)) hH (show k + 1 ≤ 71 by omega) (by omega)
        (fun i hi H' L' F' R' q1 q2 q3 q4 => nm_r (nI_1 t) (by
          have := ih (t + 1) (by omega) (okn g4) (i + 1) (fun j => if j = i + 1 then t + 1 else o j) H' L' F' R' (by omega) (by omega) (if_pos rfl)
            (fun j hj => by
              split
              · omega
              · have := ho j (by omega); omega)
            (fun j hj => q2 j (by omega)) q1 q4
          rw [pz_ww_s q3 g5] at this
          exact this)) k (by omega) (by omega) (fun j j1 j2 => by omega) F R (fun _ _ => rfl) (fun _ _ => rfl) (fun j _ j1 j2 => by omega) (by omega)
      rw [g3, Nat.sub_self] at hl
      exact ⟨k + 2, hl⟩
    by_cases c0 : T t = 0
    · rw [c0]
      exact br_t rfl (br_t rfl (hbeg _ (Or.inl ⟨c0, rfl⟩)))
    · refine br_f (fun z => c0 ((nI_eq (a := T t) (b := 0) (by omega) (by omega)).mp z)) ?_
      by_cases c2 : T t = 2
      · rw [c2]
        exact br_t rfl (br_f (by decide) (hbeg _ (Or.inr ⟨c2, rfl⟩)))
      · refine br_f (fun z => c2 ((nI_eq (a := T t) (b := 2) (by omega) (by omega)).mp z)) ?_
        by_cases c1 : T t = 1
        · rw [c1]
          refine br_t rfl ?_
          by_cases cm : m = 1
          · subst cm
            have top := yr_top0 (hs 0 (by omega))
            rw [om] at top
            exact br_t rfl (h2 (fun hR => by have := (hR.1 t (by omega) c1).1; omega) _ _ _ F R H L)
          · refine br_f (fun z => cm ((nI_eq (a := m) (b := 1) (by omega) (by omega)).mp z)) ?_
            obtain ⟨k, rfl⟩ : ∃ k, m = k + 1 := ⟨m - 1, by omega⟩
            have sk := hs k (by omega)
            have ek : (nI k).toNatClampNeg = k := nI_clamp (by omega)
            rw [nI_pred, ek]
            refine ⟨vp_in_nI (by omega) (by decide), ?_⟩
            by_cases hne : H k = -2
            · have hm := yr_topq sk hne (by omega) (by omega)
              rw [om] at hm
              exact br_t hne (h2 (fun hR => (hR.1 t (by omega) c1).2 hm) _ _ _ F R H L)
            · have hd := yr_topl sk hne (by omega)
              have hnm := yr_sg_nmk sk hne
              rw [om] at hd hnm
              have hcl := yr_close sk hne (by omega) om c1
              have hv : cd_yv T n (o k) = cd_yl T n (yr_s o k) := by
                unfold yr_s
                rw [if_neg (by omega)]
                exact cd_yv_0 hcl.1
              have hpp := hput k (o k) (by omega) (by omega) rfl (fun _ => ⟨hd, hnm⟩) c2 (Or.inr hcl)
              refine br_f hne (nm_e ⟨vp_in_nI (by omega) (by decide), ?_⟩)
              rw [ek]
              rcases yr_clist sk hne om (by omega) c1 with ⟨q1, q2⟩ | ⟨q1, q2, q3⟩
              · rw [q1]
                rw [hv, q2] at hpp
                exact br_f (by decide) (ys_thing (t := 2) (k := 0) rfl rfl (by decide) (by decide) hpp)
              · have := pz_P_mono (T := T) (show t ≤ n by omega)
                rw [q1]
                rw [hv, q2] at hpp
                exact br_t (nI_pos' (by omega)) (ys_thing (t := 3) rfl rfl (by decide) (by omega) hpp)
        · refine br_f (fun z => c1 ((nI_eq (a := T t) (b := 1) (by omega) (by omega)).mp z)) ?_
          have hpp := hput m t (Nat.le_refl _) m1 om (fun z => absurd z c1) c2 (Or.inl ⟨by omega, rfl⟩)
          rw [cd_yv_a (by omega)] at hpp
          exact ys_atom tk (by omega) hpp
theorem ys_read {post : Int32 → SY → Prop} (hn : n ≤ 70) (hT : ∀ i, i < n → zv_tk (T i) ∧ y_text i = nI (T i))
    (h1 : pz_Rd T n → ∀ F R H L, yr_H T n n F R → (0 < n → H 0 = nI (pz_AY T n 0 0)) → pz_P T n ≤ 2 * n → post 1 (nI n, nI (pz_P T n), 1, nI (pz_ww T n), y_places, y_procedures, y_continuationCount, y_things, y_foundCount, y_argumentCount, y_value, y_form, y_wherein, y_next, y_working, y_ending, y_counts, y_made, y_entered, y_printCount, y_itemCount, y_text, F, R, H, L, y_globals, y_placeNames, y_placeValues, y_placeNexts, y_procedureForms, y_procedurePlaces, y_continuations, y_whats, y_withs, y_whereins, y_soFars, y_afters, y_found, y_foundNexts, y_arguments, y_prints, y_itemKinds, y_itemNumbers, y_pile))
    (h2 : ¬ pz_Rd T n → ∀ a b c F R H L, post 0 (nI n, a, b, c, y_places, y_procedures, y_continuationCount, y_things, y_foundCount, y_argumentCount, y_value, y_form, y_wherein, y_next, y_working, y_ending, y_counts, y_made, y_entered, y_printCount, y_itemCount, y_text, F, R, H, L, y_globals, y_placeNames, y_placeValues, y_placeNexts, y_procedureForms, y_procedurePlaces, y_continuations, y_whats, y_withs, y_whereins, y_soFars, y_afters, y_found, y_foundNexts, y_arguments, y_prints, y_itemKinds, y_itemNumbers, y_pile)) : wpY_read post (nI n, y_pairs, y_open, y_formCount, y_places, y_procedures, y_continuationCount, y_things, y_foundCount, y_argumentCount, y_value, y_form, y_wherein, y_next, y_working, y_ending, y_counts, y_made, y_entered, y_printCount, y_itemCount, y_text, y_firsts, y_rests, y_heads, y_lasts, y_globals, y_placeNames, y_placeValues, y_placeNexts, y_procedureForms, y_procedurePlaces, y_continuations, y_whats, y_withs, y_whereins, y_soFars, y_afters, y_found, y_foundNexts, y_arguments, y_prints, y_itemKinds, y_itemNumbers, y_pile) := by
  unfold wpY_read
  refine ys_openList (m := 0) (by decide) ?_
  refine ⟨n + 1, ?_⟩
  exact ys_rd hn hT h1 h2 n 0 (by omega) (fun j hj => by omega) 1 (fun _ => 0) _ _ y_firsts y_rests (Nat.le_refl _) (by omega) rfl (fun k hk => Nat.le_refl _)
    (fun k hk => by
      have hk0 : k = 0 := by omega
      subst hk0
      exact Or.inr ⟨Or.inl rfl, Nat.le_refl _, rfl, fun j j1 j2 => by rw [show j = 0 from Nat.le_zero.mp j2]; exact Nat.le_refl _, Or.inl ⟨rfl, pk_us, pk_us⟩⟩) yr_H0 (by rw [pz_P]; omega)
end
