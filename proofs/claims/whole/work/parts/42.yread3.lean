/-! Y: putting a form, as one answer -/
section
variable {y_size : Int32} {y_pairs : Int32} {y_open : Int32} {y_formCount : Int32} {y_places : Int32} {y_procedures : Int32} {y_continuationCount : Int32} {y_things : Int32} {y_foundCount : Int32} {y_argumentCount : Int32} {y_value : Int64} {y_form : Int64} {y_wherein : Int32} {y_next : Int32} {y_working : Int32} {y_ending : Int32} {y_counts : Int32} {y_made : Int32} {y_entered : Int32} {y_printCount : Int32} {y_itemCount : Int32} {y_text : Nat → Int32} {y_firsts : Nat → Int64} {y_rests : Nat → Int64} {y_heads : Nat → Int32} {y_lasts : Nat → Int32} {y_globals : Nat → Int64} {y_placeNames : Nat → Int32} {y_placeValues : Nat → Int64} {y_placeNexts : Nat → Int32} {y_procedureForms : Nat → Int64} {y_procedurePlaces : Nat → Int32} {y_continuations : Nat → Int32} {y_whats : Nat → Int32} {y_withs : Nat → Int64} {y_whereins : Nat → Int32} {y_soFars : Nat → Int32} {y_afters : Nat → Int32} {y_found : Nat → Int64} {y_foundNexts : Nat → Int32} {y_arguments : Nat → Int64} {y_prints : Nat → Int32} {y_itemKinds : Nat → Int32} {y_itemNumbers : Nat → Int32} {y_pile : Nat → Int64}
variable {T : Nat → Nat} {n t b m py fc : Nat} {o : Nat → Nat} {H L : Nat → Int32} {F R : Nat → Int64}
theorem ye_put_e {k f : Nat} {F' R' : Nat → Int64} (hn : n ≤ 70) (ht : t + 1 ≤ n)
    (hb : (3 ≤ T b ∧ t + 1 = b + 1) ∨ (T b = 0 ∧ b + 1 < t + 1 ∧ T (t + 1 - 1) = 1 ∧ pz_dd T (t + 1) = pz_dd T b ∧ ∀ j, b < j → j < t + 1 → pz_dd T b < pz_dd T j))
    (hs : ∀ k, k < m → yr_sg T n o H L k) (ho : ∀ k, k ≤ m → o k ≤ t) (hH : yr_H T n t F R) (hm : m ≤ 71) (hB : pz_P T t + 2 * m ≤ 2 * t + 2)

    (hk : k < m) (hne : H k ≠ -2) (h1 : o (k + 1) ≤ b) (h2 : ∀ j, o (k + 1) ≤ j → j < b → T j = 2) (hF : ∀ a, a < pz_P T t → F' a = F a) (hR : ∀ a, a < pz_P T t → R' a = R a)
    (hQ : ∀ j, T j = 2 → o (k + 1) ≤ j → j < b → F' (pz_AY T n 1 j) = zv_c 4 40 ∧ R' (pz_AY T n 1 j) = zv_c 3 (pz_AY T n 2 j) ∧ F' (pz_AY T n 2 j) = cd_yv T n (j + 1) ∧ R' (pz_AY T n 2 j) = zv_c 2 0)
    (hc : 2 * (b - o (k + 1)) + 2 * (k + 1) ≤ 2 * m) :
    ∃ H' L' F2 R2, yr_H T n (t + 1) F2 R2 ∧ (∀ i, i ≤ k → yr_sg T n (fun i => if i = k + 1 then t + 1 else o i) H' L' i) ∧ (pz_dd T (t + 1) = 0 ↔ k = 0) ∧ pz_P T (t + 1) + 2 * (k + 1) ≤ 2 * (t + 1) + 2 ∧
      ∀ post : SY → Prop, post (y_size, nI (pz_P T (t + 1)), nI (k + 1), nI (if k = 0 then fc + 1 else fc), y_places, y_procedures, y_continuationCount, y_things, y_foundCount, y_argumentCount, y_value, y_form, y_wherein, y_next, y_working, y_ending, y_counts, y_made, y_entered, y_printCount, y_itemCount, y_text, F2, R2, H', L', y_globals, y_placeNames, y_placeValues, y_placeNexts, y_procedureForms, y_procedurePlaces, y_continuations, y_whats, y_withs, y_whereins, y_soFars, y_afters, y_found, y_foundNexts, y_arguments, y_prints, y_itemKinds, y_itemNumbers, y_pile) →
    wY_put_2 post (f + 1) (cd_yv T n (o (k + 1))) y_size (nI (pz_P T t + 2 * (b - o (k + 1)))) (nI (k + 1)) (nI fc) y_places y_procedures y_continuationCount y_things y_foundCount y_argumentCount y_value y_form y_wherein y_next y_working y_ending y_counts y_made y_entered y_printCount y_itemCount y_text (F') (R') H L y_globals y_placeNames y_placeValues y_placeNexts y_procedureForms y_procedurePlaces y_continuations y_whats y_withs y_whereins y_soFars y_afters y_found y_foundNexts y_arguments y_prints y_itemKinds y_itemNumbers y_pile := by
  have hP := pz_P_le (T := T) n hn
  have hPt : pz_P T (t + 1) = pz_P T t + (1 + 2 * pz_qn T b) := by
    have := pz_P_s hb
    rw [Nat.add_sub_cancel] at this
    exact this
  have hFm : pz_Fm T (o (k + 1)) (t + 1) := ⟨b, h1, h2, hb⟩
  have hsk := hs k hk
  have hmk := yr_sg_nmk hsk hne
  have hq := pz_qn_eq h2 hmk h1
  obtain ⟨b', x1, x2, x3, x4, x5, x6, x7, x8, _, _⟩ := yr_ad hFm ht
  have hbb : b = b' := by
    have := pz_cb_eq hb
    exact this.symm.trans x5
  subst hbb
  rw [Nat.add_sub_cancel] at x8
  rw [hq] at x8 hPt
  have hmono := pz_P_mono (T := T) ht
  generalize hcc : pz_P T t + 2 * (b - o (k + 1)) = c at *
  have hdd : pz_dd T (t + 1) = 0 ↔ k = 0 := by
    obtain ⟨g1, _, g3, _⟩ := yr_sg_l hsk hne
    rw [pz_Fm_dd hFm, g3]
    unfold yr_s
    by_cases z : k = 0
    · rw [if_pos z]
      exact ⟨fun _ => z, fun _ => rfl⟩
    · rw [if_neg z, pz_dd_o (by omega)]
      omega
  have hbd : pz_P T (t + 1) + 2 * (k + 1) ≤ 2 * (t + 1) + 2 := by omega
  have hF2 : ∀ a, a < pz_P T t → vp_updL F' c (cd_yv T n (o (k + 1))) a = F a := fun a ha => by
    rw [pk_uLn (by omega)]; exact hF a ha
  have hR2 : ∀ a, a < pz_P T t → vp_updL R' c (zv_c 2 0) a = R a := fun a ha => by
    rw [pk_uLn (by omega)]; exact hR a ha
  have hQ2 : ∀ j, T j = 2 → o (k + 1) ≤ j → pz_Fm T j (t + 1) → vp_updL F' c (cd_yv T n (o (k + 1))) (pz_AY T n 1 j) = zv_c 4 40 ∧ vp_updL R' c (zv_c 2 0) (pz_AY T n 1 j) = zv_c 3 (pz_AY T n 2 j) ∧ vp_updL F' c (cd_yv T n (o (k + 1))) (pz_AY T n 2 j) = cd_yv T n (j + 1) ∧ vp_updL R' c (zv_c 2 0) (pz_AY T n 2 j) = zv_c 2 0 := by
    intro j j1 j2 j3
    obtain ⟨b2, y1, y2, y3, y4, y5, _⟩ := yr_ad j3 ht
    have hb2 : b = b2 := x5.symm.trans y5
    subst hb2
    have hs2 := yr_sep2 hFm j3 ht j1
    rw [x8] at hs2
    rw [pk_uLn hs2.1.symm, pk_uLn hs2.1.symm, pk_uLn hs2.2.symm, pk_uLn hs2.2.symm]
    exact hQ j j1 j2 (by
      have : j ≠ b := fun z => y4 (z ▸ j1)
      omega)
  have hE2 : vp_updL F' c (cd_yv T n (o (k + 1))) (pz_AY T n 0 (o (k + 1))) = cd_yv T n (o (k + 1)) ∧ vp_updL R' c (zv_c 2 0) (pz_AY T n 0 (o (k + 1))) = zv_c 2 0 := by
    rw [x8, pk_uLs, pk_uLs]
    exact ⟨rfl, rfl⟩
  have hlow : ∀ (H' L' : Nat → Int32), (∀ i, i < k → H' i = H i ∧ L' i = L i) → yr_sg T n (fun i => if i = k + 1 then t + 1 else o i) H' L' k → ∀ i, i ≤ k → yr_sg T n (fun i => if i = k + 1 then t + 1 else o i) H' L' i := by
    intro H' L' g1 g2 i hi
    by_cases z : i = k
    · rw [z]; exact g2
    · exact yr_sg_low (hs i (by omega)) (if_neg (by omega)) (if_neg (by omega)) (g1 i (by omega)).1 (g1 i (by omega)).2
  have ek : (nI k).toNatClampNeg = k := nI_clamp (by omega)
  have hik : vp_in (nI k) 72 := vp_in_nI (by omega) (by decide)
  have hPc : pz_P T (t + 1) = c + 1 := by omega
  have hik' : vp_in (nI (k + 1) - 1) 72 := by rw [nI_pred]; exact hik
  have ek' : (nI (k + 1) - 1).toNatClampNeg = k := by rw [nI_pred, ek]
  have hne' : ¬ H (nI (k + 1) - 1).toNatClampNeg = -2 := by rw [ek']; exact hne
  obtain ⟨g1, g2, g3, g4, ⟨g5, g6, g7⟩ | ⟨e', p', g5, g6, g7, g8, g9, g10, g11⟩⟩ := yr_sg_l hsk hne
  · refine ⟨upd H k (nI c), upd L k (nI c), _, _, yr_put0 hH ht hFm hmk (fun q => ?_) hF2 hR2 hQ2 hE2, hlow _ _ (fun i hi => ⟨pk_un (by omega), pk_un (by omega)⟩) ?_, hdd, hbd, fun post hp => ?_⟩
    · rw [← g5]; exact yr_s_nF g1 q
    rotate_left
    · rw [hPc] at hp
      exact ⟨hik', br_f hne' (ys_thing (t := 2) (k := 0) rfl rfl (by decide) (by decide) (ys_pair (py := c) (by omega) ⟨hik', br_f (by rw [ek', g7]; decide) ⟨hik', nm_r (cl_I ek') (ys_134 (by omega) hp)⟩⟩))⟩
    · refine yr_sg_put hsk hne hFm ht (if_neg (by omega)) (if_pos rfl) (by rw [pk_us, x8]) (by rw [pk_us, g7, if_pos rfl, x8]) (by omega)
  · have hl := yr_lt (n := n) (t := t) g7 (by have := pz_Fm_lt hFm; omega) (by have := pz_Fm_lt hFm; omega)
    have ep : (L (nI (k + 1) - 1).toNatClampNeg).toNatClampNeg = pz_AY T n 0 p' := by rw [ek', g11]; exact nI_clamp (by omega)
    have hput := yr_put1 hH ht hFm hmk g7 g9 hF2 hR2 hQ2 hE2
    rw [x8] at hput
    refine ⟨H, upd L k (nI c), _, _, hput, hlow _ _ (fun i hi => ⟨rfl, pk_un (by omega)⟩) ?_, hdd, hbd, fun post hp => ?_⟩
    rotate_left
    · rw [hPc] at hp
      exact ⟨hik', br_f hne' (ys_thing (t := 2) (k := 0) rfl rfl (by decide) (by decide) (ys_pair (py := c) (by omega) ⟨hik', br_t (by rw [ek', g11]; exact nI_pos' (by omega)) ⟨hik', ys_thing (t := 3) (k := c) rfl rfl (by decide) (by omega) ⟨by rw [ek', g11]; exact vp_in_nI (by omega) (by decide), nm_r (cl_L ep) (ys_134 (by omega) hp)⟩⟩⟩))⟩
    · refine yr_sg_put hsk hne hFm ht (if_neg (by omega)) (if_pos rfl) (by rw [pk_us, x8]) (by rw [g11, if_neg (yr_n2 (by omega)).2]) (by omega)
theorem ye_put_l (hn : n ≤ 70) (ht : t + 1 ≤ n)
    (hb : (3 ≤ T b ∧ t + 1 = b + 1) ∨ (T b = 0 ∧ b + 1 < t + 1 ∧ T (t + 1 - 1) = 1 ∧ pz_dd T (t + 1) = pz_dd T b ∧ ∀ j, b < j → j < t + 1 → pz_dd T b < pz_dd T j))
    (hs : ∀ k, k < m → yr_sg T n o H L k) (ho : ∀ k, k ≤ m → o k ≤ t) (hH : yr_H T n t F R) (hm : m ≤ 71) (hB : pz_P T t + 2 * m ≤ 2 * t + 2)
 :
    ∀ k, k < m → o (k + 1) ≤ b → (∀ j, o (k + 1) ≤ j → j < b → T j = 2) → ∀ F' R', (∀ a, a < pz_P T t → F' a = F a) → (∀ a, a < pz_P T t → R' a = R a) →
      (∀ j, T j = 2 → o (k + 1) ≤ j → j < b → F' (pz_AY T n 1 j) = zv_c 4 40 ∧ R' (pz_AY T n 1 j) = zv_c 3 (pz_AY T n 2 j) ∧ F' (pz_AY T n 2 j) = cd_yv T n (j + 1) ∧ R' (pz_AY T n 2 j) = zv_c 2 0) →
      2 * (b - o (k + 1)) + 2 * (k + 1) ≤ 2 * m →
      ∃ k' H' L' F2 R2, k' ≤ k ∧ yr_H T n (t + 1) F2 R2 ∧ (∀ i, i ≤ k' → yr_sg T n (fun i => if i = k' + 1 then t + 1 else o i) H' L' i) ∧ (pz_dd T (t + 1) = 0 ↔ k' = 0) ∧ pz_P T (t + 1) + 2 * (k' + 1) ≤ 2 * (t + 1) + 2 ∧
      ∀ post : SY → Prop, post (y_size, nI (pz_P T (t + 1)), nI (k' + 1), nI (if k' = 0 then fc + 1 else fc), y_places, y_procedures, y_continuationCount, y_things, y_foundCount, y_argumentCount, y_value, y_form, y_wherein, y_next, y_working, y_ending, y_counts, y_made, y_entered, y_printCount, y_itemCount, y_text, F2, R2, H', L', y_globals, y_placeNames, y_placeValues, y_placeNexts, y_procedureForms, y_procedurePlaces, y_continuations, y_whats, y_withs, y_whereins, y_soFars, y_afters, y_found, y_foundNexts, y_arguments, y_prints, y_itemKinds, y_itemNumbers, y_pile) →
      wY_put_2 post (k + 2) (cd_yv T n (o (k + 1))) y_size (nI (pz_P T t + 2 * (b - o (k + 1)))) (nI (k + 1)) (nI fc) y_places y_procedures y_continuationCount y_things y_foundCount y_argumentCount y_value y_form y_wherein y_next y_working y_ending y_counts y_made y_entered y_printCount y_itemCount y_text (F') (R') H L y_globals y_placeNames y_placeValues y_placeNexts y_procedureForms y_procedurePlaces y_continuations y_whats y_withs y_whereins y_soFars y_afters y_found y_foundNexts y_arguments y_prints y_itemKinds y_itemNumbers y_pile := by
  intro k
  have hP := pz_P_le (T := T) n hn
  induction k with
  | zero =>
    intro hk h1 h2 F' R' hF hR hQ hc
    by_cases hne : H 0 = -2
    · have := (yr_sg_q (hs 0 hk) hne (by have := ho 1 (by omega); omega) (by omega)).1
      omega
    · obtain ⟨H', L', F2, R2, g1, g2, g3, g4, g5⟩ := ye_put_e (fc := fc) (f := 1) (y_size := y_size) (y_places := y_places) (y_procedures := y_procedures) (y_continuationCount := y_continuationCount) (y_things := y_things) (y_foundCount := y_foundCount) (y_argumentCount := y_argumentCount) (y_value := y_value) (y_form := y_form) (y_wherein := y_wherein) (y_next := y_next) (y_working := y_working) (y_ending := y_ending) (y_counts := y_counts) (y_made := y_made) (y_entered := y_entered) (y_printCount := y_printCount) (y_itemCount := y_itemCount) (y_text := y_text) (y_globals := y_globals) (y_placeNames := y_placeNames) (y_placeValues := y_placeValues) (y_placeNexts := y_placeNexts) (y_procedureForms := y_procedureForms) (y_procedurePlaces := y_procedurePlaces) (y_continuations := y_continuations) (y_whats := y_whats) (y_withs := y_withs) (y_whereins := y_whereins) (y_soFars := y_soFars) (y_afters := y_afters) (y_found := y_found) (y_foundNexts := y_foundNexts) (y_arguments := y_arguments) (y_prints := y_prints) (y_itemKinds := y_itemKinds) (y_itemNumbers := y_itemNumbers) (y_pile := y_pile) hn ht hb hs ho hH hm hB hk hne h1 h2 hF hR hQ hc
      exact ⟨_, H', L', F2, R2, Nat.le_refl _, g1, g2, g3, g4, g5⟩
  | succ k ih =>
    intro hk h1 h2 F' R' hF hR hQ hc
    by_cases hne : H (k + 1) = -2
    · obtain ⟨_, q1, q2⟩ := yr_sg_q (hs (k + 1) hk) hne (by have := ho (k + 2) (by omega); omega) (by omega)
      have hq : ∀ j, o (k + 1) ≤ j → j < b → T j = 2 := by
        intro j j1 j2
        by_cases z : j = o (k + 1)
        · rw [z]; exact q1
        · exact h2 j (by omega) j2
      have hFm : pz_Fm T (o (k + 1)) (t + 1) := ⟨b, by omega, hq, hb⟩
      obtain ⟨b', x1, x2, x3, x4, x5, x6, x7, _, x9, x10⟩ := yr_ad hFm ht
      have hbb : b = b' := by
        have := pz_cb_eq hb
        exact this.symm.trans x5
      subst hbb
      rw [Nat.add_sub_cancel] at x9 x10
      have hc0 : pz_P T t + 2 * (b - o (k + 1 + 1)) = pz_AY T n 2 (o (k + 1)) := by rw [x10]; omega
      have hc1 : pz_AY T n 1 (o (k + 1)) = pz_AY T n 2 (o (k + 1)) + 1 := by omega
      have hc2 : pz_P T t + 2 * (b - o (k + 1)) = pz_AY T n 2 (o (k + 1)) + 1 + 1 := by omega
      have hlt : pz_AY T n 2 (o (k + 1)) < 200 := by omega
      have hge : pz_P T t ≤ pz_AY T n 2 (o (k + 1)) := by omega
      have hv : cd_yv T n (o (k + 1)) = zv_c 3 (pz_AY T n 1 (o (k + 1))) := cd_yv_2 q1
      have ek : (nI (k + 1)).toNatClampNeg = k + 1 := nI_clamp (by omega)
      have hik : vp_in (nI (k + 1)) 72 := vp_in_nI (by omega) (by decide)
      have hrec := ih (by omega) (by omega) hq
        (vp_updL (vp_updL F' (pz_AY T n 2 (o (k + 1))) (cd_yv T n (o (k + 1 + 1)))) (pz_AY T n 2 (o (k + 1)) + 1) (zv_c 4 40))
        (vp_updL (vp_updL R' (pz_AY T n 2 (o (k + 1))) (zv_c 2 0)) (pz_AY T n 2 (o (k + 1)) + 1) (zv_c 3 (pz_AY T n 2 (o (k + 1)))))
        (fun a ha => by rw [pk_uLn (by omega), pk_uLn (by omega)]; exact hF a ha)
        (fun a ha => by rw [pk_uLn (by omega), pk_uLn (by omega)]; exact hR a ha)
        (fun j j1 j2 j3 => by
          by_cases z : j = o (k + 1)
          · subst z
            rw [hc1, pk_uLs, pk_uLs, pk_uLn (by omega), pk_uLs, pk_uLn (by omega), pk_uLs, q2]
            exact ⟨rfl, rfl, rfl, rfl⟩
          · have hFj : pz_Fm T j (t + 1) := ⟨b, by omega, fun i i1 i2 => hq i (by omega) i2, hb⟩
            obtain ⟨b2, y1, y2, y3, y4, y5, _, _, _, y9, y10⟩ := yr_ad hFj ht
            have hb2 : b = b2 := x5.symm.trans y5
            subst hb2
            rw [Nat.add_sub_cancel] at y9 y10
            rw [pk_uLn (by omega), pk_uLn (by omega), pk_uLn (by omega), pk_uLn (by omega), pk_uLn (by omega), pk_uLn (by omega), pk_uLn (by omega), pk_uLn (by omega)]
            exact hQ j j1 (by omega) j3)
        (by omega)
      obtain ⟨k', H', L', F2, R2, r0, r1, r2, r3, r4, r5⟩ := hrec
      refine ⟨k', H', L', F2, R2, by omega, r1, r2, r3, r4, fun post hp => ?_⟩
      have hrec := r5 post hp
      rw [hc2, hv, hc1] at hrec
      have hik' : vp_in (nI (k + 1 + 1) - 1) 72 := by rw [nI_pred]; exact hik
      have hne' : H (nI (k + 1 + 1) - 1).toNatClampNeg = -2 := by rw [nI_pred, ek]; exact hne
      rw [hc0]
      refine ⟨hik', br_t hne' (ys_thing (t := 2) (k := 0) rfl rfl (by decide) (by decide) (ys_pair (by omega) (ys_thing (t := 3) rfl rfl (by decide) (by omega) (ys_thing (t := 4) (k := 40) rfl rfl (by decide) (by decide)
        (ys_pair (by omega) (ys_thing (t := 3) rfl rfl (by decide) (by omega) (nm_r (nI_pred _) hrec)))))))⟩
    · obtain ⟨H', L', F2, R2, g1, g2, g3, g4, g5⟩ := ye_put_e (fc := fc) (f := k + 2) (y_size := y_size) (y_places := y_places) (y_procedures := y_procedures) (y_continuationCount := y_continuationCount) (y_things := y_things) (y_foundCount := y_foundCount) (y_argumentCount := y_argumentCount) (y_value := y_value) (y_form := y_form) (y_wherein := y_wherein) (y_next := y_next) (y_working := y_working) (y_ending := y_ending) (y_counts := y_counts) (y_made := y_made) (y_entered := y_entered) (y_printCount := y_printCount) (y_itemCount := y_itemCount) (y_text := y_text) (y_globals := y_globals) (y_placeNames := y_placeNames) (y_placeValues := y_placeValues) (y_placeNexts := y_placeNexts) (y_procedureForms := y_procedureForms) (y_procedurePlaces := y_procedurePlaces) (y_continuations := y_continuations) (y_whats := y_whats) (y_withs := y_withs) (y_whereins := y_whereins) (y_soFars := y_soFars) (y_afters := y_afters) (y_found := y_found) (y_foundNexts := y_foundNexts) (y_arguments := y_arguments) (y_prints := y_prints) (y_itemKinds := y_itemKinds) (y_itemNumbers := y_itemNumbers) (y_pile := y_pile) hn ht hb hs ho hH hm hB hk hne h1 h2 hF hR hQ hc
      exact ⟨_, H', L', F2, R2, Nat.le_refl _, g1, g2, g3, g4, g5⟩
end
