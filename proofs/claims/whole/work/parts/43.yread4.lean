/-! Y: reading, as one answer -/
def ye_G (T : Nat → Nat) (n : Nat) (r a b c : Int32) (F R : Nat → Int64) (H : Nat → Int32) : Prop :=
  (r = 1 ∧ pz_Rd T n ∧ a = nI (pz_P T n) ∧ b = 1 ∧ c = nI (pz_ww T n) ∧ yr_H T n n F R ∧ (0 < n → H 0 = nI (pz_AY T n 0 0)) ∧ pz_P T n ≤ 2 * n) ∨ (r = 0 ∧ ¬ pz_Rd T n)
section
variable {y_size : Int32} {y_pairs : Int32} {y_open : Int32} {y_formCount : Int32} {y_places : Int32} {y_procedures : Int32} {y_continuationCount : Int32} {y_things : Int32} {y_foundCount : Int32} {y_argumentCount : Int32} {y_value : Int64} {y_form : Int64} {y_wherein : Int32} {y_next : Int32} {y_working : Int32} {y_ending : Int32} {y_counts : Int32} {y_made : Int32} {y_entered : Int32} {y_printCount : Int32} {y_itemCount : Int32} {y_text : Nat → Int32} {y_firsts : Nat → Int64} {y_rests : Nat → Int64} {y_heads : Nat → Int32} {y_lasts : Nat → Int32} {y_globals : Nat → Int64} {y_placeNames : Nat → Int32} {y_placeValues : Nat → Int64} {y_placeNexts : Nat → Int32} {y_procedureForms : Nat → Int64} {y_procedurePlaces : Nat → Int32} {y_continuations : Nat → Int32} {y_whats : Nat → Int32} {y_withs : Nat → Int64} {y_whereins : Nat → Int32} {y_soFars : Nat → Int32} {y_afters : Nat → Int32} {y_found : Nat → Int64} {y_foundNexts : Nat → Int32} {y_arguments : Nat → Int64} {y_prints : Nat → Int32} {y_itemKinds : Nat → Int32} {y_itemNumbers : Nat → Int32} {y_pile : Nat → Int64}
variable {T : Nat → Nat} {n : Nat}
theorem ye_rd (hn : n ≤ 70) (hT : ∀ i, i < n → zv_tk (T i) ∧ y_text i = nI (T i)) :
    ∀ d t, t + d = n → (∀ j, j < t → pz_ok T j) → ∀ m o H L F R, 1 ≤ m → m ≤ t + 1 → o m = t → (∀ k, k ≤ m → o k ≤ t) → (∀ k, k < m → yr_sg T n o H L k) → yr_H T n t F R → pz_P T t + 2 * m ≤ 2 * t + 2 →
      ∃ r a b c F' R' H' L', ye_G T n r a b c F' R' H' ∧ ∀ post : Int32 → SY → Prop, post r (nI n, a, b, c, y_places, y_procedures, y_continuationCount, y_things, y_foundCount, y_argumentCount, y_value, y_form, y_wherein, y_next, y_working, y_ending, y_counts, y_made, y_entered, y_printCount, y_itemCount, y_text, F', R', H', L', y_globals, y_placeNames, y_placeValues, y_placeNexts, y_procedureForms, y_procedurePlaces, y_continuations, y_whats, y_withs, y_whereins, y_soFars, y_afters, y_found, y_foundNexts, y_arguments, y_prints, y_itemKinds, y_itemNumbers, y_pile) →
        wY_read_22 post (d + 1) (nI t) (nI n) (nI (pz_P T t)) (nI m) (nI (pz_ww T t)) y_places y_procedures y_continuationCount y_things y_foundCount y_argumentCount y_value y_form y_wherein y_next y_working y_ending y_counts y_made y_entered y_printCount y_itemCount y_text F R H L y_globals y_placeNames y_placeValues y_placeNexts y_procedureForms y_procedurePlaces y_continuations y_whats y_withs y_whereins y_soFars y_afters y_found y_foundNexts y_arguments y_prints y_itemKinds y_itemNumbers y_pile := by
  have hP := pz_P_le (T := T) n hn
  intro d
  induction d with
  | zero =>
    intro t ht hok m o H L F R m1 m2 om ho hs hH hB
    have htn : t = n := by omega
    subst htn
    by_cases c : m = 1
    · subst c
      have s0 := hs 0 (by omega)
      have top := yr_top0 s0
      rw [om] at top
      refine ⟨1, _, 1, _, F, R, H, L, Or.inl ⟨rfl, ⟨hok, top⟩, rfl, rfl, rfl, hH, fun hn0 => ?_, by omega⟩, fun post h => br_t (nI_le (Nat.le_refl _) (by omega)) (br_t rfl h)⟩
      rcases s0 with ⟨a, _⟩ | ⟨_, _, _, _, ⟨a, _⟩ | ⟨e, p, a1, a2, a3, a4, a5, a6, a7⟩⟩
      · omega
      · have h0 : 0 = o 1 := a
        omega
      · exact a6
    · refine ⟨0, nI (pz_P T t), nI m, nI (pz_ww T t), F, R, H, L, Or.inr ⟨rfl, fun hR => ?_⟩, fun post h => br_t (nI_le (Nat.le_refl _) (by omega)) (br_f (fun z => c ((nI_eq (a := m) (b := 1) (by omega) (by omega)).mp z)) h)⟩
      have sk := hs (m - 1) (by omega)
      have om' : o (m - 1 + 1) = t := by rw [show m - 1 + 1 = m by omega]; exact om
      by_cases hne : H (m - 1) = -2
      · have := yr_topq sk hne (by omega) (by omega)
        rw [om'] at this
        exact hR.2.2 this
      · have := yr_topl sk hne (by omega)
        rw [om', hR.2.1] at this
        omega
  | succ d ih =>
    intro t ht hok m o H L F R m1 m2 om ho hs hH hB
    obtain ⟨tk, te⟩ := hT t (by omega)
    have tl : T t < 100 := by unfold zv_tk at tk; omega
    have ec : (nI t).toNatClampNeg = t := nI_clamp (by omega)
    have okn : pz_ok T t → ∀ j, j < t + 1 → pz_ok T j := by
      intro z j hj
      by_cases y : j = t
      · rw [y]; exact z
      · exact hok j (by omega)
    have pre : y_text (nI t).toNatClampNeg = nI (T t) := (cl_R ec).trans te
    have hsz : ¬ nI n ≤ nI t := nI_ge (by omega) (by omega)
    have hit : vp_in (nI t) 70 := vp_in_nI (by omega) (by decide)
    by_cases hbg : T t = 0 ∨ T t = 2
    · -- something begins
      obtain ⟨z, hz⟩ : ∃ z : Int32, (T t = 0 ∧ z = -1) ∨ (T t = 2 ∧ z = -2) := by
        rcases hbg with h | h
        · exact ⟨-1, Or.inl ⟨h, rfl⟩⟩
        · exact ⟨-2, Or.inr ⟨h, rfl⟩⟩
      have hPs : pz_P T (t + 1) = pz_P T t := by rw [pz_P, if_pos hbg]; rfl
      have hws : pz_ww T (t + 1) = pz_ww T t := by
        rw [pz_ww, if_neg]
        intro y
        rcases hz with hz | hz
        · rw [pz_dd_o hz.1] at y; omega
        · exact y.2 hz.1
      obtain ⟨r, a, b, c, F', R', H', L', g1, g2⟩ := ih (t + 1) (by omega) (okn (fun y => by omega)) (m + 1) (fun i => if i = m + 1 then t + 1 else o i) (upd H m z) (upd L m (-1)) F R (by omega) (by omega) (if_pos rfl)
        (fun k hk => by
          split
          · omega
          · have := ho k (by omega); omega)
        (fun k hk => by
          by_cases y : k = m
          · subst y
            have e1 : (fun i => if i = k + 1 then t + 1 else o i) k = t := by
              dsimp only
              rw [if_neg (by omega), om]
            have e2 : (fun i => if i = k + 1 then t + 1 else o i) (k + 1) = t + 1 := if_pos rfl
            have e3 : yr_s (fun i => if i = k + 1 then t + 1 else o i) k = t + 1 := by
              unfold yr_s
              rw [if_neg (by omega), e1]
            unfold yr_sg
            rw [e1, e2, e3, pk_us, pk_us]
            rcases hz with ⟨z1, z2⟩ | ⟨z1, z2⟩
            · exact Or.inr ⟨Or.inr z1, Nat.le_refl _, rfl, fun j j1 j2 => by rw [show j = t + 1 by omega]; exact Nat.le_refl _, Or.inl ⟨rfl, z2, rfl⟩⟩
            · exact Or.inl ⟨m1, z1, z2, rfl⟩
          · exact yr_sg_low (hs k (by omega)) (if_neg (by omega)) (if_neg (by omega)) (pk_un y) (pk_un y))
        (yr_Hs hH (by omega)) (by omega)
      refine ⟨r, a, b, c, F', R', H', L', g1, fun post h => br_f hsz ⟨hit, nm_r pre ?_⟩⟩
      have := g2 post h
      rw [hPs, hws] at this
      have h57 : wY_read_57 post (wY_read_22 post (d + 1)) (nI t) z (nI n) (nI (pz_P T t)) (nI m) (nI (pz_ww T t)) y_places y_procedures y_continuationCount y_things y_foundCount y_argumentCount y_value y_form y_wherein y_next y_working y_ending y_counts y_made y_entered y_printCount y_itemCount y_text F R H L y_globals y_placeNames y_placeValues y_placeNexts y_procedureForms y_procedurePlaces y_continuations y_whats y_withs y_whereins y_soFars y_afters y_found y_foundNexts y_arguments y_prints y_itemKinds y_itemNumbers y_pile := by
        unfold wY_read_57
        exact ys_openList (by omega) (nm_r (nI_1 t) this)
      rcases hz with ⟨z1, rfl⟩ | ⟨z1, rfl⟩
      · rw [z1]
        exact br_t rfl (br_t rfl h57)
      · rw [z1]
        exact br_f (by decide) (br_t rfl (br_f (by decide) h57))
    · have c0 : T t ≠ 0 := fun z => hbg (Or.inl z)
      have c2 : T t ≠ 2 := fun z => hbg (Or.inr z)
      have n0 : ¬ nI (T t) = 0 := ne_I (b := 0) c0 (by omega) (by decide)
      have n2 : ¬ nI (T t) = 2 := ne_I (b := 2) c2 (by omega) (by decide)
      have hput : ∀ m' b, m' ≤ m → 1 ≤ m' → o m' = b → pz_ok T t → ((3 ≤ T b ∧ t + 1 = b + 1) ∨ (T b = 0 ∧ b + 1 < t + 1 ∧ T (t + 1 - 1) = 1 ∧ pz_dd T (t + 1) = pz_dd T b ∧ ∀ j, b < j → j < t + 1 → pz_dd T b < pz_dd T j)) →
          ∃ r a b' c F' R' H' L', ye_G T n r a b' c F' R' H' ∧ ∀ post : Int32 → SY → Prop, post r (nI n, a, b', c, y_places, y_procedures, y_continuationCount, y_things, y_foundCount, y_argumentCount, y_value, y_form, y_wherein, y_next, y_working, y_ending, y_counts, y_made, y_entered, y_printCount, y_itemCount, y_text, F', R', H', L', y_globals, y_placeNames, y_placeValues, y_placeNexts, y_procedureForms, y_procedurePlaces, y_continuations, y_whats, y_withs, y_whereins, y_soFars, y_afters, y_found, y_foundNexts, y_arguments, y_prints, y_itemKinds, y_itemNumbers, y_pile) →
            wpY_put (fun u => match u with | (y_size, y_pairs, y_open, y_formCount, y_places, y_procedures, y_continuationCount, y_things, y_foundCount, y_argumentCount, y_value, y_form, y_wherein, y_next, y_working, y_ending, y_counts, y_made, y_entered, y_printCount, y_itemCount, y_text, y_firsts, y_rests, y_heads, y_lasts, y_globals, y_placeNames, y_placeValues, y_placeNexts, y_procedureForms, y_procedurePlaces, y_continuations, y_whats, y_withs, y_whereins, y_soFars, y_afters, y_found, y_foundNexts, y_arguments, y_prints, y_itemKinds, y_itemNumbers, y_pile) => ∀ x : Int32, x = nI t + 1 → wY_read_22 post (d + 1) x y_size y_pairs y_open y_formCount y_places y_procedures y_continuationCount y_things y_foundCount y_argumentCount y_value y_form y_wherein y_next y_working y_ending y_counts y_made y_entered y_printCount y_itemCount y_text y_firsts y_rests y_heads y_lasts y_globals y_placeNames y_placeValues y_placeNexts y_procedureForms y_procedurePlaces y_continuations y_whats y_withs y_whereins y_soFars y_afters y_found y_foundNexts y_arguments y_prints y_itemKinds y_itemNumbers y_pile) (nI n, nI (pz_P T t), nI m', nI (pz_ww T t), y_places, y_procedures, y_continuationCount, y_things, y_foundCount, y_argumentCount, y_value, y_form, y_wherein, y_next, y_working, y_ending, y_counts, y_made, y_entered, y_printCount, y_itemCount, y_text, F, R, H, L, y_globals, y_placeNames, y_placeValues, y_placeNexts, y_procedureForms, y_procedurePlaces, y_continuations, y_whats, y_withs, y_whereins, y_soFars, y_afters, y_found, y_foundNexts, y_arguments, y_prints, y_itemKinds, y_itemNumbers, y_pile) (cd_yv T n b) := by
        intro m' b g1 g2 g3 g4 g6
        obtain ⟨k, rfl⟩ : ∃ k, m' = k + 1 := ⟨m' - 1, by omega⟩
        obtain ⟨k', H', L', F2, R2, r0, r1, r2, r3, r4, r5⟩ := ye_put_l (fc := pz_ww T t) (y_size := nI n) (y_places := y_places) (y_procedures := y_procedures) (y_continuationCount := y_continuationCount) (y_things := y_things) (y_foundCount := y_foundCount) (y_argumentCount := y_argumentCount) (y_value := y_value) (y_form := y_form) (y_wherein := y_wherein) (y_next := y_next) (y_working := y_working) (y_ending := y_ending) (y_counts := y_counts) (y_made := y_made) (y_entered := y_entered) (y_printCount := y_printCount) (y_itemCount := y_itemCount) (y_text := y_text) (y_globals := y_globals) (y_placeNames := y_placeNames) (y_placeValues := y_placeValues) (y_placeNexts := y_placeNexts) (y_procedureForms := y_procedureForms) (y_procedurePlaces := y_procedurePlaces) (y_continuations := y_continuations) (y_whats := y_whats) (y_withs := y_withs) (y_whereins := y_whereins) (y_soFars := y_soFars) (y_afters := y_afters) (y_found := y_found) (y_foundNexts := y_foundNexts) (y_arguments := y_arguments) (y_prints := y_prints) (y_itemKinds := y_itemKinds) (y_itemNumbers := y_itemNumbers) (y_pile := y_pile)
          hn (show t + 1 ≤ n by omega) g6 (fun i hi => hs i (show i < m by omega)) (fun i hi => ho i (show i ≤ m by omega)) hH (show k + 1 ≤ 71 by omega) (by omega) k (by omega) (by omega) (fun j j1 j2 => by omega) F R (fun _ _ => rfl) (fun _ _ => rfl) (fun j _ j1 j2 => by omega) (by omega)
        obtain ⟨r, a, b', c, F', R', H2, L2, q1, q2⟩ := ih (t + 1) (by omega) (okn g4) (k' + 1) (fun j => if j = k' + 1 then t + 1 else o j) H' L' F2 R2 (by omega) (by omega) (if_pos rfl)
            (fun j hj => by
              split
              · omega
              · have := ho j (by omega); omega)
            (fun j hj => r2 j (by omega)) r1 r4
        refine ⟨r, a, b', c, F', R', H2, L2, q1, fun post h => ⟨k + 2, ?_⟩⟩
        have := q2 post h
        rw [pz_ww_s r3 c2] at this
        have hl := r5 (fun u => match u with | (y_size, y_pairs, y_open, y_formCount, y_places, y_procedures, y_continuationCount, y_things, y_foundCount, y_argumentCount, y_value, y_form, y_wherein, y_next, y_working, y_ending, y_counts, y_made, y_entered, y_printCount, y_itemCount, y_text, y_firsts, y_rests, y_heads, y_lasts, y_globals, y_placeNames, y_placeValues, y_placeNexts, y_procedureForms, y_procedurePlaces, y_continuations, y_whats, y_withs, y_whereins, y_soFars, y_afters, y_found, y_foundNexts, y_arguments, y_prints, y_itemKinds, y_itemNumbers, y_pile) => ∀ x : Int32, x = nI t + 1 → wY_read_22 post (d + 1) x y_size y_pairs y_open y_formCount y_places y_procedures y_continuationCount y_things y_foundCount y_argumentCount y_value y_form y_wherein y_next y_working y_ending y_counts y_made y_entered y_printCount y_itemCount y_text y_firsts y_rests y_heads y_lasts y_globals y_placeNames y_placeValues y_placeNexts y_procedureForms y_procedurePlaces y_continuations y_whats y_withs y_whereins y_soFars y_afters y_found y_foundNexts y_arguments y_prints y_itemKinds y_itemNumbers y_pile) (nm_r (nI_1 t) this)
        rw [g3, Nat.sub_self] at hl
        exact hl
      by_cases c1 : T t = 1
      · by_cases cm : m = 1
        · subst cm
          have top := yr_top0 (hs 0 (by omega))
          rw [om] at top
          refine ⟨0, nI (pz_P T t), nI 1, nI (pz_ww T t), F, R, H, L, Or.inr ⟨rfl, fun hR => by have := (hR.1 t (by omega) c1).1; omega⟩, fun post h => br_f hsz ⟨hit, nm_r pre (br_f n0 (br_f n2 ?_))⟩⟩
          rw [c1]
          exact br_t rfl (br_t rfl h)
        · have nm : ¬ nI m = 1 := ne_I (b := 1) cm (by omega) (by decide)
          obtain ⟨k, rfl⟩ : ∃ k, m = k + 1 := ⟨m - 1, by omega⟩
          have sk := hs k (by omega)
          have ek : (nI k).toNatClampNeg = k := nI_clamp (by omega)
          have ek' : (nI (k + 1) - 1).toNatClampNeg = k := by rw [nI_pred]; exact ek
          have hik : vp_in (nI (k + 1) - 1) 72 := by rw [nI_pred]; exact vp_in_nI (by omega) (by decide)
          by_cases hne : H k = -2
          · have hm := yr_topq sk hne (by omega) (by omega)
            rw [om] at hm
            refine ⟨0, nI (pz_P T t), nI (k + 1), nI (pz_ww T t), F, R, H, L, Or.inr ⟨rfl, fun hR => (hR.1 t (by omega) c1).2 hm⟩, fun post h => br_f hsz ⟨hit, nm_r pre (br_f n0 (br_f n2 ?_))⟩⟩
            rw [c1]
            exact br_t rfl (br_f nm ⟨hik, br_t (by rw [ek']; exact hne) h⟩)
          · have hd := yr_topl sk hne (by omega)
            have hnm := yr_sg_nmk sk hne
            rw [om] at hd hnm
            have hcl := yr_close sk hne (by omega) om c1
            have hv : cd_yv T n (o k) = cd_yl T n (yr_s o k) := by
              unfold yr_s
              rw [if_neg (by omega)]
              exact cd_yv_0 hcl.1
            obtain ⟨r, a, b', c, F', R', H2, L2, q1, q2⟩ := hput k (o k) (by omega) (by omega) rfl (fun _ => ⟨hd, hnm⟩) (Or.inr hcl)
            refine ⟨r, a, b', c, F', R', H2, L2, q1, fun post h => br_f hsz ⟨hit, nm_r pre (br_f n0 (br_f n2 ?_))⟩⟩
            have hpp := q2 post h
            rw [c1]
            refine br_t rfl (br_f nm ⟨hik, br_f (by rw [ek']; exact hne) (nm_r (nI_pred k) ⟨vp_in_nI (by omega) (by decide), ?_⟩)⟩)
            rw [ek]
            rcases yr_clist sk hne om (by omega) c1 with ⟨q1, q2⟩ | ⟨q1, q2, q3⟩
            · rw [q1]
              rw [hv, q2] at hpp
              exact br_f (by decide) (ys_thing (t := 2) (k := 0) rfl rfl (by decide) (by decide) hpp)
            · have := pz_P_mono (T := T) (show t ≤ n by omega)
              rw [q1]
              rw [hv, q2] at hpp
              exact br_t (nI_pos' (by omega)) (ys_thing (t := 3) rfl rfl (by decide) (by omega) hpp)
      · have n1 : ¬ nI (T t) = 1 := ne_I (b := 1) c1 (by omega) (by decide)
        obtain ⟨r, a, b', c, F', R', H2, L2, q1, q2⟩ := hput m t (Nat.le_refl _) m1 om (fun z => absurd z c1) (Or.inl ⟨by omega, rfl⟩)
        refine ⟨r, a, b', c, F', R', H2, L2, q1, fun post h => br_f hsz ⟨hit, nm_r pre (br_f n0 (br_f n2 (br_f n1 ?_)))⟩⟩
        have hpp := q2 post h
        rw [cd_yv_a (by omega)] at hpp
        exact ys_atom tk (by omega) hpp
theorem ye_read (hn : n ≤ 70) (hT : ∀ i, i < n → zv_tk (T i) ∧ y_text i = nI (T i)) :
    ∃ r a b c F R H L, ye_G T n r a b c F R H ∧ ∀ post : Int32 → SY → Prop, post r (nI n, a, b, c, y_places, y_procedures, y_continuationCount, y_things, y_foundCount, y_argumentCount, y_value, y_form, y_wherein, y_next, y_working, y_ending, y_counts, y_made, y_entered, y_printCount, y_itemCount, y_text, F, R, H, L, y_globals, y_placeNames, y_placeValues, y_placeNexts, y_procedureForms, y_procedurePlaces, y_continuations, y_whats, y_withs, y_whereins, y_soFars, y_afters, y_found, y_foundNexts, y_arguments, y_prints, y_itemKinds, y_itemNumbers, y_pile) → wpY_read post (nI n, y_pairs, y_open, y_formCount, y_places, y_procedures, y_continuationCount, y_things, y_foundCount, y_argumentCount, y_value, y_form, y_wherein, y_next, y_working, y_ending, y_counts, y_made, y_entered, y_printCount, y_itemCount, y_text, y_firsts, y_rests, y_heads, y_lasts, y_globals, y_placeNames, y_placeValues, y_placeNexts, y_procedureForms, y_procedurePlaces, y_continuations, y_whats, y_withs, y_whereins, y_soFars, y_afters, y_found, y_foundNexts, y_arguments, y_prints, y_itemKinds, y_itemNumbers, y_pile) := by
  obtain ⟨r, a, b, c, F, R, H, L, h1, h2⟩ := ye_rd (y_places := y_places) (y_procedures := y_procedures) (y_continuationCount := y_continuationCount) (y_things := y_things) (y_foundCount := y_foundCount) (y_argumentCount := y_argumentCount) (y_value := y_value) (y_form := y_form) (y_wherein := y_wherein) (y_next := y_next) (y_working := y_working) (y_ending := y_ending) (y_counts := y_counts) (y_made := y_made) (y_entered := y_entered) (y_printCount := y_printCount) (y_itemCount := y_itemCount) (y_globals := y_globals) (y_placeNames := y_placeNames) (y_placeValues := y_placeValues) (y_placeNexts := y_placeNexts) (y_procedureForms := y_procedureForms) (y_procedurePlaces := y_procedurePlaces) (y_continuations := y_continuations) (y_whats := y_whats) (y_withs := y_withs) (y_whereins := y_whereins) (y_soFars := y_soFars) (y_afters := y_afters) (y_found := y_found) (y_foundNexts := y_foundNexts) (y_arguments := y_arguments) (y_prints := y_prints) (y_itemKinds := y_itemKinds) (y_itemNumbers := y_itemNumbers) (y_pile := y_pile)
    hn hT n 0 (by omega) (fun j hj => by omega) 1 (fun _ => 0) (upd y_heads 0 (-1)) (upd y_lasts 0 (-1)) y_firsts y_rests (Nat.le_refl _) (by omega) rfl (fun k hk => Nat.le_refl _)
    (fun k hk => by
      have hk0 : k = 0 := by omega
      subst hk0
      exact Or.inr ⟨Or.inl rfl, Nat.le_refl _, rfl, fun j j1 j2 => by rw [show j = 0 from Nat.le_zero.mp j2]; exact Nat.le_refl _, Or.inl ⟨rfl, pk_us, pk_us⟩⟩) yr_H0 (by rw [pz_P]; omega)
  refine ⟨r, a, b, c, F, R, H, L, h1, fun post h => ?_⟩
  unfold wpY_read
  refine ys_openList (m := 0) (by decide) ?_
  exact ⟨n + 1, h2 post h⟩
end
