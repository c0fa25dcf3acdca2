/-! lengths of lists, innermost places, on both sides -/
section
variable {x_textLength : Int32} {x_pairCount : Int32} {x_placeCount : Int32} {x_procedureCount : Int32} {x_continuationCount : Int32} {x_frameCount : Int32} {x_state : Int32} {x_ending : Int32} {x_form : Int64} {x_environment : Int32} {x_frame : Int32} {x_value : Int64} {x_applied : Int64} {x_argumentCount : Int32} {x_countedCount : Int32} {x_consCount : Int32} {x_entryCount : Int32} {x_outputCount : Int32} {x_itemCount : Int32} {x_text : Nat → Int32} {x_firsts : Nat → Int64} {x_rests : Nat → Int64} {x_placeNames : Nat → Int32} {x_placeValues : Nat → Int64} {x_placeOuters : Nat → Int32} {x_procedureParts : Nat → Int64} {x_procedurePlaces : Nat → Int32} {x_continuationFrames : Nat → Int32} {x_frameTasks : Nat → Int32} {x_frameForms : Nat → Int64} {x_frameValues : Nat → Int64} {x_framePlaces : Nat → Int32} {x_frameNexts : Nat → Int32} {x_arguments : Nat → Int64} {x_outputs : Nat → Int32} {x_itemKinds : Nat → Int32} {x_itemNumbers : Nat → Int32} {x_openLists : Nat → Int64}
variable {y_size : Int32} {y_pairs : Int32} {y_open : Int32} {y_formCount : Int32} {y_places : Int32} {y_procedures : Int32} {y_continuationCount : Int32} {y_things : Int32} {y_foundCount : Int32} {y_argumentCount : Int32} {y_value : Int64} {y_form : Int64} {y_wherein : Int32} {y_next : Int32} {y_working : Int32} {y_ending : Int32} {y_counts : Int32} {y_made : Int32} {y_entered : Int32} {y_printCount : Int32} {y_itemCount : Int32} {y_text : Nat → Int32} {y_firsts : Nat → Int64} {y_rests : Nat → Int64} {y_heads : Nat → Int32} {y_lasts : Nat → Int32} {y_globals : Nat → Int64} {y_placeNames : Nat → Int32} {y_placeValues : Nat → Int64} {y_placeNexts : Nat → Int32} {y_procedureForms : Nat → Int64} {y_procedurePlaces : Nat → Int32} {y_continuations : Nat → Int32} {y_whats : Nat → Int32} {y_withs : Nat → Int64} {y_whereins : Nat → Int32} {y_soFars : Nat → Int32} {y_afters : Nat → Int32} {y_found : Nat → Int64} {y_foundNexts : Nat → Int32} {y_arguments : Nat → Int64} {y_prints : Nat → Int32} {y_itemKinds : Nat → Int32} {y_itemNumbers : Nat → Int32} {y_pile : Nat → Int64}
variable {T : Nat → Nat} {n px py pl np nc : Nat} {M : Nat → Nat → Prop}
theorem ch_inj {t : Nat} (ht : t < 16) {B : Nat} (hB : B ≤ 4294967296) : ∀ c d, c < B → d < B → zv_c t c = zv_c t d → c = d := fun c d h1 h2 h => ((zv_eq ht (by omega) ht (by omega)).mp h).2
theorem ch_X0 {B : Nat} (hB : B ≤ 4294967296) : ∀ c, c < B → zv_c 2 c ≠ zv_c 3 0 := fun c h z => by have := (zv_eq (by decide) (by omega) (by decide) (by decide)).mp z; omega
theorem ch_Y0 {B : Nat} (hB : B ≤ 4294967296) : ∀ c, c < B → zv_c 3 c ≠ zv_c 2 0 := fun c h z => by have := (zv_eq (by decide) (by omega) (by decide) (by decide)).mp z; omega
theorem xs_len_l {post : Int32 → Prop} {S : Int64 → Prop} (hpx : px ≤ 1400) (hS : ∀ v, S v → ∃ s l, s < 16 ∧ l < 4294967296 ∧ v = zv_c s l ∧ (s = 2 → l < px ∧ S (x_rests l)) ∧ (s = 3 → l = 0)) :
    ∀ d i v, i + d = px + 1 → S v → (∀ k, ch_N x_rests (zv_c 2) (zv_c 3 0) px k v → post (nI (i + k))) → ((∀ k, k < d → ¬ ch_N x_rests (zv_c 2) (zv_c 3 0) px k v) → post (-1000000003)) →
      wX_lengthOf_5 post x_textLength (nI px) x_placeCount x_procedureCount x_continuationCount x_frameCount x_state x_ending x_form x_environment x_frame x_value x_applied x_argumentCount x_countedCount x_consCount x_entryCount x_outputCount x_itemCount x_text x_firsts x_rests x_placeNames x_placeValues x_placeOuters x_procedureParts x_procedurePlaces x_continuationFrames x_frameTasks x_frameForms x_frameValues x_framePlaces x_frameNexts x_arguments x_outputs x_itemKinds x_itemNumbers x_openLists (d + 1) v (nI i) := by
  intro d
  induction d with
  | zero =>
    intro i v hi hv h1 h2
    exact br_t (nI_lt (by omega) (by omega)) (h2 (fun k hk => by omega))
  | succ d ih =>
    intro i v hi hv h1 h2
    obtain ⟨s, l, hs, hl, rfl, g1, g2⟩ := hS v hv
    refine br_f (nI_nlt (by omega) (by omega)) ?_
    by_cases c3 : s = 3
    · subst c3
      have := g2 rfl
      subst this
      exact br_t (by rw [zk_xE]) (h1 0 rfl)
    · refine br_f (fun z => c3 (by rw [zk_xE] at z; exact ((zv_eq hs hl (by decide) (by decide)).mp z).1)) ?_
      rw [zv_sh hs hl]
      by_cases c2 : s = 2
      · subst c2
        obtain ⟨g3, g4⟩ := g1 rfl
        refine br_t rfl ⟨zv_in (by omega) (by decide), nm_r (cl_R (zv_cl (by omega))) (nm_r (nI_1 i) (ih (i + 1) _ (by omega) g4 (fun k hk => ?_) (fun hk => h2 (fun k hk1 hk2 => ?_))))⟩
        · have := h1 (k + 1) ⟨l, g3, rfl, hk⟩
          rw [show i + 1 + k = i + (k + 1) by omega]
          exact this
        · cases k with
          | zero => exact absurd hk2 (ch_X0 (B := px) (by omega) l g3)
          | succ k =>
            obtain ⟨c, q1, q2, q3⟩ := hk2
            have := ch_inj (by decide) (by omega) _ _ g3 q1 q2
            subst this
            exact hk k (by omega) q3
      · refine br_f (fun z => c2 ((pk_lEQ (a := s) (b := 2) (by omega) (by omega)).mp z)) (h2 (fun k hk1 hk2 => ?_))
        cases k with
        | zero => exact c3 ((zv_eq hs hl (by decide) (by decide)).mp hk2).1
        | succ k =>
          obtain ⟨c, q1, q2, q3⟩ := hk2
          exact c2 ((zv_eq hs hl (by decide) (by omega)).mp q2).1
theorem xs_len {post : Int32 → Prop} {S : Int64 → Prop} {v : Int64} (hpx : px ≤ 1400) (hS : ∀ v, S v → ∃ s l, s < 16 ∧ l < 4294967296 ∧ v = zv_c s l ∧ (s = 2 → l < px ∧ S (x_rests l)) ∧ (s = 3 → l = 0)) (hv : S v)
    (h1 : ∀ k, ch_N x_rests (zv_c 2) (zv_c 3 0) px k v → post (nI k)) (h2 : (∀ k, ¬ ch_N x_rests (zv_c 2) (zv_c 3 0) px k v) → post (-1000000003)) : wpX_lengthOf post (x_textLength, nI px, x_placeCount, x_procedureCount, x_continuationCount, x_frameCount, x_state, x_ending, x_form, x_environment, x_frame, x_value, x_applied, x_argumentCount, x_countedCount, x_consCount, x_entryCount, x_outputCount, x_itemCount, x_text, x_firsts, x_rests, x_placeNames, x_placeValues, x_placeOuters, x_procedureParts, x_procedurePlaces, x_continuationFrames, x_frameTasks, x_frameForms, x_frameValues, x_framePlaces, x_frameNexts, x_arguments, x_outputs, x_itemKinds, x_itemNumbers, x_openLists) v := by
  refine ⟨px + 2, xs_len_l hpx hS (px + 1) 0 v (by omega) hv (fun k hk => by rw [Nat.zero_add]; exact h1 k hk) (fun hk => h2 (fun k hk2 => hk k ?_ hk2))⟩
  have := ch_len (ch_X0 (by omega)) (ch_inj (by decide) (by omega)) hk2
  omega
theorem xs_len_ch {post : Int32 → Prop} {v : Int64} {k : Nat} (hpx : px ≤ 1400) (hv : ch_N x_rests (zv_c 2) (zv_c 3 0) px k v) (h : post (nI k)) : wpX_lengthOf post (x_textLength, nI px, x_placeCount, x_procedureCount, x_continuationCount, x_frameCount, x_state, x_ending, x_form, x_environment, x_frame, x_value, x_applied, x_argumentCount, x_countedCount, x_consCount, x_entryCount, x_outputCount, x_itemCount, x_text, x_firsts, x_rests, x_placeNames, x_placeValues, x_placeOuters, x_procedureParts, x_procedurePlaces, x_continuationFrames, x_frameTasks, x_frameForms, x_frameValues, x_framePlaces, x_frameNexts, x_arguments, x_outputs, x_itemKinds, x_itemNumbers, x_openLists) v := by
  refine xs_len (S := fun w => ∃ k, ch_N x_rests (zv_c 2) (zv_c 3 0) px k w) hpx (fun w ⟨k, hk⟩ => ?_) ⟨k, hv⟩ (fun k' hk' => ?_) (fun z => absurd hv (z k))
  · cases k with
    | zero => exact ⟨3, 0, by decide, by decide, hk, fun z => by omega, fun _ => rfl⟩
    | succ k =>
      obtain ⟨c, q1, q2, q3⟩ := hk
      exact ⟨2, c, by decide, by omega, q2, fun _ => ⟨q1, k, q3⟩, fun z => by omega⟩
  · rw [ch_uniq (ch_X0 (by omega)) (ch_inj (by decide) (by omega)) _ _ _ hk' hv]
    exact h
theorem ys_len_l {post : Int32 → Prop} {S : Int64 → Prop} (hpy : py ≤ 900) (hS : ∀ v, S v → ∃ s l, s < 16 ∧ l < 4294967296 ∧ v = zv_c s l ∧ (s = 3 → l < py ∧ S (y_rests l)) ∧ (s = 2 → l = 0)) :
    ∀ d i v, i + d = 900 → S v → (∀ k, ch_N y_rests (zv_c 3) (zv_c 2 0) py k v → post (nI (i + k))) → ((∀ k, k ≤ d → ¬ ch_N y_rests (zv_c 3) (zv_c 2 0) py k v) → post (-1)) →
      wY_lengthOf_5 post y_size y_pairs y_open y_formCount y_places y_procedures y_continuationCount y_things y_foundCount y_argumentCount y_value y_form y_wherein y_next y_working y_ending y_counts y_made y_entered y_printCount y_itemCount y_text y_firsts y_rests y_heads y_lasts y_globals y_placeNames y_placeValues y_placeNexts y_procedureForms y_procedurePlaces y_continuations y_whats y_withs y_whereins y_soFars y_afters y_found y_foundNexts y_arguments y_prints y_itemKinds y_itemNumbers y_pile (d + 1) (nI i) v := by
  intro d
  induction d with
  | zero =>
    intro i v hi hv h1 h2
    obtain ⟨s, l, hs, hl, rfl, g1, g2⟩ := hS v hv
    have he : wY_lengthOf_35 post (nI i) (zv_c s l) y_size y_pairs y_open y_formCount y_places y_procedures y_continuationCount y_things y_foundCount y_argumentCount y_value y_form y_wherein y_next y_working y_ending y_counts y_made y_entered y_printCount y_itemCount y_text y_firsts y_rests y_heads y_lasts y_globals y_placeNames y_placeValues y_placeNexts y_procedureForms y_procedurePlaces y_continuations y_whats y_withs y_whereins y_soFars y_afters y_found y_foundNexts y_arguments y_prints y_itemKinds y_itemNumbers y_pile := by
      unfold wY_lengthOf_35
      refine ys_tag hs hl ?_
      by_cases c2 : s = 2
      · subst c2
        have := g2 rfl
        subst this
        exact br_t rfl (h1 0 rfl)
      · refine br_f (fun z => c2 ((nI_eq (a := s) (b := 2) (by omega) (by omega)).mp z)) (h2 (fun k hk hk2 => ?_))
        have : k = 0 := by omega
        subst this
        exact c2 ((zv_eq hs hl (by decide) (by decide)).mp hk2).1
    rw [wY_lengthOf_5]
    by_cases c3 : s = 3
    · subst c3
      exact ys_isPair_t hl (br_f (by decide) (br_t (nI_le (a := 900) (by omega) (by omega)) he))
    · exact ys_isPair_f hs c3 hl (br_t rfl he)
  | succ d ih =>
    intro i v hi hv h1 h2
    obtain ⟨s, l, hs, hl, rfl, g1, g2⟩ := hS v hv
    rw [wY_lengthOf_5]
    by_cases c3 : s = 3
    · subst c3
      obtain ⟨g3, g4⟩ := g1 rfl
      refine ys_isPair_t hl (br_f (by decide) (br_f (nI_ge (b := 900) (by omega) (by decide)) (nm_r (nI_1 i) (ys_restOf (by omega) (ih (i + 1) _ (by omega) g4 (fun k hk => ?_) (fun hk => h2 (fun k hk1 hk2 => ?_)))))))
      · have := h1 (k + 1) ⟨l, g3, rfl, hk⟩
        rw [show i + 1 + k = i + (k + 1) by omega]
        exact this
      · cases k with
        | zero => exact absurd hk2 (ch_Y0 (B := py) (by omega) l g3)
        | succ k =>
          obtain ⟨c, q1, q2, q3⟩ := hk2
          have := ch_inj (by decide) (by omega) _ _ g3 q1 q2
          subst this
          exact hk k (by omega) q3
    · refine ys_isPair_f hs c3 hl (br_t rfl ?_)
      unfold wY_lengthOf_35
      refine ys_tag hs hl ?_
      by_cases c2 : s = 2
      · subst c2
        have := g2 rfl
        subst this
        exact br_t rfl (h1 0 rfl)
      · refine br_f (fun z => c2 ((nI_eq (a := s) (b := 2) (by omega) (by omega)).mp z)) (h2 (fun k hk hk2 => ?_))
        cases k with
        | zero => exact c2 ((zv_eq hs hl (by decide) (by decide)).mp hk2).1
        | succ k =>
          obtain ⟨c, q1, q2, q3⟩ := hk2
          exact c3 ((zv_eq hs hl (by decide) (by omega)).mp q2).1
theorem ys_len {post : Int32 → Prop} {S : Int64 → Prop} {v : Int64} (hpy : py ≤ 900) (hS : ∀ v, S v → ∃ s l, s < 16 ∧ l < 4294967296 ∧ v = zv_c s l ∧ (s = 3 → l < py ∧ S (y_rests l)) ∧ (s = 2 → l = 0)) (hv : S v)
    (h1 : ∀ k, ch_N y_rests (zv_c 3) (zv_c 2 0) py k v → post (nI k)) (h2 : (∀ k, ¬ ch_N y_rests (zv_c 3) (zv_c 2 0) py k v) → post (-1)) : wpY_lengthOf post (y_size, y_pairs, y_open, y_formCount, y_places, y_procedures, y_continuationCount, y_things, y_foundCount, y_argumentCount, y_value, y_form, y_wherein, y_next, y_working, y_ending, y_counts, y_made, y_entered, y_printCount, y_itemCount, y_text, y_firsts, y_rests, y_heads, y_lasts, y_globals, y_placeNames, y_placeValues, y_placeNexts, y_procedureForms, y_procedurePlaces, y_continuations, y_whats, y_withs, y_whereins, y_soFars, y_afters, y_found, y_foundNexts, y_arguments, y_prints, y_itemKinds, y_itemNumbers, y_pile) v := by
  refine ⟨901, ys_len_l hpy hS 900 0 v (by omega) hv (fun k hk => by rw [Nat.zero_add]; exact h1 k hk) (fun hk => h2 (fun k hk2 => hk k ?_ hk2))⟩
  have := ch_len (ch_Y0 (by omega)) (ch_inj (by decide) (by omega)) hk2
  omega
theorem ys_len_ch {post : Int32 → Prop} {v : Int64} {k : Nat} (hpy : py ≤ 900) (hv : ch_N y_rests (zv_c 3) (zv_c 2 0) py k v) (h : post (nI k)) : wpY_lengthOf post (y_size, y_pairs, y_open, y_formCount, y_places, y_procedures, y_continuationCount, y_things, y_foundCount, y_argumentCount, y_value, y_form, y_wherein, y_next, y_working, y_ending, y_counts, y_made, y_entered, y_printCount, y_itemCount, y_text, y_firsts, y_rests, y_heads, y_lasts, y_globals, y_placeNames, y_placeValues, y_placeNexts, y_procedureForms, y_procedurePlaces, y_continuations, y_whats, y_withs, y_whereins, y_soFars, y_afters, y_found, y_foundNexts, y_arguments, y_prints, y_itemKinds, y_itemNumbers, y_pile) v := by
  refine ys_len (S := fun w => ∃ k, ch_N y_rests (zv_c 3) (zv_c 2 0) py k w) hpy (fun w ⟨k, hk⟩ => ?_) ⟨k, hv⟩ (fun k' hk' => ?_) (fun z => absurd hv (z k))
  · cases k with
    | zero => exact ⟨2, 0, by decide, by decide, hk, fun z => by omega, fun _ => rfl⟩
    | succ k =>
      obtain ⟨c, q1, q2, q3⟩ := hk
      exact ⟨3, c, by decide, by omega, q2, fun _ => ⟨q1, k, q3⟩, fun z => by omega⟩
  · rw [ch_uniq (ch_Y0 (by omega)) (ch_inj (by decide) (by omega)) _ _ _ hk' hv]
    exact h
/-- lists of data end on both sides, with one length -/
theorem ch_iff {FY RY FX RX : Nat → Int64} (hpy : py ≤ 4294967296) (hpx : px ≤ 4294967296) (hp : hp_OK T n M np nc py px FY RY FX RX) : ∀ k y x, zv_V M np nc y x → (ch_N RY (zv_c 3) (zv_c 2 0) py k y ↔ ch_N RX (zv_c 2) (zv_c 3 0) px k x) := by
  intro k
  induction k with
  | zero =>
    intro y x hV
    obtain ⟨t, a, s, l, ha, hl, rfl, rfl, hK⟩ := hV
    have b := zv_K_b hK
    have c := zv_K_p hK
    show zv_c t a = zv_c 2 0 ↔ zv_c s l = zv_c 3 0
    rw [zv_eq (by omega) ha (by decide) (by decide), zv_eq (by omega) hl (by decide) (by decide)]
    omega
  | succ k ih =>
    intro y x hV
    obtain ⟨t, a, s, l, ha, hl, rfl, rfl, hK⟩ := hV
    have b := zv_K_b hK
    have c := zv_K_p hK
    constructor
    · intro ⟨d, q1, q2, q3⟩
      obtain ⟨e1, e2⟩ := (zv_eq (by omega) ha (by decide) (by omega)).mp q2
      subst e2
      have m := c.2.1 e1
      have g := hp.1 _ _ m
      exact ⟨l, g.2, by rw [c.1.mp e1], (ih _ _ (hp.2.2.2.1 _ _ m).2).mp q3⟩
    · intro ⟨d, q1, q2, q3⟩
      obtain ⟨e1, e2⟩ := (zv_eq (by omega) hl (by decide) (by omega)).mp q2
      subst e2
      have e3 := c.1.mpr e1
      have m := c.2.1 e3
      have g := hp.1 _ _ m
      exact ⟨a, g.1, by rw [e3], (ih _ _ (hp.2.2.2.1 _ _ m).2).mpr q3⟩
/-- the innermost place of a name -/
theorem lk_at {k : Nat} {nf fo co cn et pc : Nat} {G : Nat → Nat} (hr : sm_R T n M G px py pl np nc nf fo co cn et pc (x_textLength, x_pairCount, x_placeCount, x_procedureCount, x_continuationCount, x_frameCount, x_state, x_ending, x_form, x_environment, x_frame, x_value, x_applied, x_argumentCount, x_countedCount, x_consCount, x_entryCount, x_outputCount, x_itemCount, x_text, x_firsts, x_rests, x_placeNames, x_placeValues, x_placeOuters, x_procedureParts, x_procedurePlaces, x_continuationFrames, x_frameTasks, x_frameForms, x_frameValues, x_framePlaces, x_frameNexts, x_arguments, x_outputs, x_itemKinds, x_itemNumbers, x_openLists) (y_size, y_pairs, y_open, y_formCount, y_places, y_procedures, y_continuationCount, y_things, y_foundCount, y_argumentCount, y_value, y_form, y_wherein, y_next, y_working, y_ending, y_counts, y_made, y_entered, y_printCount, y_itemCount, y_text, y_firsts, y_rests, y_heads, y_lasts, y_globals, y_placeNames, y_placeValues, y_placeNexts, y_procedureForms, y_procedurePlaces, y_continuations, y_whats, y_withs, y_whereins, y_soFars, y_afters, y_found, y_foundNexts, y_arguments, y_prints, y_itemKinds, y_itemNumbers, y_pile)) (h1 : 30 ≤ k) (h2 : k ≤ 39) (hpl : pl ≤ 2400) :
    ∀ b wy wx, en_R b wy wx → b ≤ pl →
      (∃ e, e < pl ∧ (∀ (post : Int32 → Prop) i f, i + b ≤ 2499 → b < f → post (nI (e + 10)) → wX_innermostPlace_7 post (nI k) x_textLength x_pairCount x_placeCount x_procedureCount x_continuationCount x_frameCount x_state x_ending x_form x_environment x_frame x_value x_applied x_argumentCount x_countedCount x_consCount x_entryCount x_outputCount x_itemCount x_text x_firsts x_rests x_placeNames x_placeValues x_placeOuters x_procedureParts x_procedurePlaces x_continuationFrames x_frameTasks x_frameForms x_frameValues x_framePlaces x_frameNexts x_arguments x_outputs x_itemKinds x_itemNumbers x_openLists f wx (nI i)) ∧ (∀ (post : Int32 → Prop) f, b < f → post (nI e) → wY_findPlace_2 post (nI k) y_size y_pairs y_open y_formCount y_places y_procedures y_continuationCount y_things y_foundCount y_argumentCount y_value y_form y_wherein y_next y_working y_ending y_counts y_made y_entered y_printCount y_itemCount y_text y_firsts y_rests y_heads y_lasts y_globals y_placeNames y_placeValues y_placeNexts y_procedureForms y_procedurePlaces y_continuations y_whats y_withs y_whereins y_soFars y_afters y_found y_foundNexts y_arguments y_prints y_itemKinds y_itemNumbers y_pile f wy)) ∨
      ((∀ (post : Int32 → Prop) i f, i + b ≤ 2499 → b < f → post (nI (k - 30)) → wX_innermostPlace_7 post (nI k) x_textLength x_pairCount x_placeCount x_procedureCount x_continuationCount x_frameCount x_state x_ending x_form x_environment x_frame x_value x_applied x_argumentCount x_countedCount x_consCount x_entryCount x_outputCount x_itemCount x_text x_firsts x_rests x_placeNames x_placeValues x_placeOuters x_procedureParts x_procedurePlaces x_continuationFrames x_frameTasks x_frameForms x_frameValues x_framePlaces x_frameNexts x_arguments x_outputs x_itemKinds x_itemNumbers x_openLists f wx (nI i)) ∧ (∀ (post : Int32 → Prop) f, b < f → post (-1) → wY_findPlace_2 post (nI k) y_size y_pairs y_open y_formCount y_places y_procedures y_continuationCount y_things y_foundCount y_argumentCount y_value y_form y_wherein y_next y_working y_ending y_counts y_made y_entered y_printCount y_itemCount y_text y_firsts y_rests y_heads y_lasts y_globals y_placeNames y_placeValues y_placeNexts y_procedureForms y_procedurePlaces y_continuations y_whats y_withs y_whereins y_soFars y_afters y_found y_foundNexts y_arguments y_prints y_itemKinds y_itemNumbers y_pile f wy)) := by
  have h : pl_OK M np nc pl y_globals y_placeNames y_placeValues y_placeNexts x_placeNames x_placeValues x_placeOuters := hr.2.2.2.2.2.2.2.2.1
  have base : ∀ b, ((∀ (post : Int32 → Prop) i f, i + b ≤ 2499 → b < f → post (nI (k - 30)) → wX_innermostPlace_7 post (nI k) x_textLength x_pairCount x_placeCount x_procedureCount x_continuationCount x_frameCount x_state x_ending x_form x_environment x_frame x_value x_applied x_argumentCount x_countedCount x_consCount x_entryCount x_outputCount x_itemCount x_text x_firsts x_rests x_placeNames x_placeValues x_placeOuters x_procedureParts x_procedurePlaces x_continuationFrames x_frameTasks x_frameForms x_frameValues x_framePlaces x_frameNexts x_arguments x_outputs x_itemKinds x_itemNumbers x_openLists f 0 (nI i)) ∧ (∀ (post : Int32 → Prop) f, b < f → post (-1) → wY_findPlace_2 post (nI k) y_size y_pairs y_open y_formCount y_places y_procedures y_continuationCount y_things y_foundCount y_argumentCount y_value y_form y_wherein y_next y_working y_ending y_counts y_made y_entered y_printCount y_itemCount y_text y_firsts y_rests y_heads y_lasts y_globals y_placeNames y_placeValues y_placeNexts y_procedureForms y_procedurePlaces y_continuations y_whats y_withs y_whereins y_soFars y_afters y_found y_foundNexts y_arguments y_prints y_itemKinds y_itemNumbers y_pile f (-1))) := by
    intro b
    refine ⟨fun post i f hi hf hp => ?_, fun post f hf hp => ?_⟩
    · obtain ⟨f, rfl⟩ : ∃ g, f = g + 1 := ⟨f - 1, by omega⟩
      refine br_f (nI_ge (b := 2500) (by omega) (by decide)) (br_t (by decide) ?_)
      have e : nI k - 30 = nI (k - 30) := pk_sub (a := k) (b := 30) h1
      rw [e]
      exact hp
    · obtain ⟨f, rfl⟩ : ∃ g, f = g + 1 := ⟨f - 1, by omega⟩
      exact br_t (by decide) hp
  intro b
  induction b with
  | zero =>
    intro wy wx he hb
    rcases he with ⟨rfl, rfl⟩ | ⟨e, z, _⟩
    · exact Or.inr (base 0)
    · omega
  | succ b ih =>
    intro wy wx he hb
    rcases he with ⟨rfl, rfl⟩ | ⟨e, z, rfl, rfl⟩
    · exact Or.inr (base _)
    · by_cases ce : e < b
      · rcases ih (nI e) (nI (e + 10)) (Or.inr ⟨e, ce, rfl, rfl⟩) (by omega) with ⟨r, r1, r2, r3⟩ | ⟨r2, r3⟩
        · exact Or.inl ⟨r, r1, fun post i f hi hf hp => r2 post i f (by omega) (by omega) hp, fun post f hf hp => r3 post f (by omega) hp⟩
        · exact Or.inr ⟨fun post i f hi hf hp => r2 post i f (by omega) (by omega) hp, fun post f hf hp => r3 post f (by omega) hp⟩
      · have : e = b := by omega
        subst this
        obtain ⟨⟨k', q1, q2, q3⟩, q4, q5, q6⟩ := h.2 e (by omega)
        have ex : (nI (e + 10)).toNatClampNeg = e + 10 := nI_clamp (by omega)
        have ey : (nI e).toNatClampNeg = e := nI_clamp (by omega)
        by_cases ck : k' = k
        · subst ck
          refine Or.inl ⟨e, by omega, fun post i f hi hf hp => ?_, fun post f hf hp => ?_⟩
          · obtain ⟨f, rfl⟩ : ∃ g, f = g + 1 := ⟨f - 1, by omega⟩
            exact br_f (nI_ge (b := 2500) (by omega) (by decide)) (br_f (nI_nlt (b := 10) (by omega) (by omega)) ⟨vp_in_nI (by omega) (by decide), br_t (by rw [ex, q4, q3]) hp⟩)
          · obtain ⟨f, rfl⟩ : ∃ g, f = g + 1 := ⟨f - 1, by omega⟩
            exact br_f (nI_pos (by omega)) ⟨vp_in_nI (by omega) (by decide), br_t (by rw [ey, q3]) hp⟩
        · have hne : ¬ nI k' = nI k := fun z => ck ((nI_eq (by omega) (by omega)).mp z)
          have hX : ∀ (post : Int32 → Prop) i f, i + (e + 1) ≤ 2499 → e + 1 < f + 1 → wX_innermostPlace_7 post (nI k) x_textLength x_pairCount x_placeCount x_procedureCount x_continuationCount x_frameCount x_state x_ending x_form x_environment x_frame x_value x_applied x_argumentCount x_countedCount x_consCount x_entryCount x_outputCount x_itemCount x_text x_firsts x_rests x_placeNames x_placeValues x_placeOuters x_procedureParts x_procedurePlaces x_continuationFrames x_frameTasks x_frameForms x_frameValues x_framePlaces x_frameNexts x_arguments x_outputs x_itemKinds x_itemNumbers x_openLists f (x_placeOuters (e + 10)) (nI (i + 1)) → wX_innermostPlace_7 post (nI k) x_textLength x_pairCount x_placeCount x_procedureCount x_continuationCount x_frameCount x_state x_ending x_form x_environment x_frame x_value x_applied x_argumentCount x_countedCount x_consCount x_entryCount x_outputCount x_itemCount x_text x_firsts x_rests x_placeNames x_placeValues x_placeOuters x_procedureParts x_procedurePlaces x_continuationFrames x_frameTasks x_frameForms x_frameValues x_framePlaces x_frameNexts x_arguments x_outputs x_itemKinds x_itemNumbers x_openLists (f + 1) (nI (e + 10)) (nI i) := by
            intro post i f hi hf hp
            exact br_f (nI_ge (b := 2500) (by omega) (by decide)) (br_f (nI_nlt (b := 10) (by omega) (by omega)) ⟨vp_in_nI (by omega) (by decide), br_f (by rw [ex, q4, q3]; exact hne) ⟨vp_in_nI (by omega) (by decide), nm_r (cl_R ex) (nm_r (nI_1 i) hp)⟩⟩)
          have hY : ∀ (post : Int32 → Prop) f, wY_findPlace_2 post (nI k) y_size y_pairs y_open y_formCount y_places y_procedures y_continuationCount y_things y_foundCount y_argumentCount y_value y_form y_wherein y_next y_working y_ending y_counts y_made y_entered y_printCount y_itemCount y_text y_firsts y_rests y_heads y_lasts y_globals y_placeNames y_placeValues y_placeNexts y_procedureForms y_procedurePlaces y_continuations y_whats y_withs y_whereins y_soFars y_afters y_found y_foundNexts y_arguments y_prints y_itemKinds y_itemNumbers y_pile f (y_placeNexts e) → wY_findPlace_2 post (nI k) y_size y_pairs y_open y_formCount y_places y_procedures y_continuationCount y_things y_foundCount y_argumentCount y_value y_form y_wherein y_next y_working y_ending y_counts y_made y_entered y_printCount y_itemCount y_text y_firsts y_rests y_heads y_lasts y_globals y_placeNames y_placeValues y_placeNexts y_procedureForms y_procedurePlaces y_continuations y_whats y_withs y_whereins y_soFars y_afters y_found y_foundNexts y_arguments y_prints y_itemKinds y_itemNumbers y_pile (f + 1) (nI e) := by
            intro post f hp
            exact br_f (nI_pos (by omega)) ⟨vp_in_nI (by omega) (by decide), br_f (by rw [ey, q3]; exact hne) ⟨vp_in_nI (by omega) (by decide), nm_r (cl_R ey) hp⟩⟩
          rcases ih _ _ q6 (by omega) with ⟨r, r1, r2, r3⟩ | ⟨r2, r3⟩
          · refine Or.inl ⟨r, r1, fun post i f hi hf hp => ?_, fun post f hf hp => ?_⟩
            · obtain ⟨f, rfl⟩ : ∃ g, f = g + 1 := ⟨f - 1, by omega⟩
              exact hX post i f hi hf (r2 post (i + 1) f (by omega) (by omega) hp)
            · obtain ⟨f, rfl⟩ : ∃ g, f = g + 1 := ⟨f - 1, by omega⟩
              exact hY post f (r3 post f (by omega) hp)
          · refine Or.inr ⟨fun post i f hi hf hp => ?_, fun post f hf hp => ?_⟩
            · obtain ⟨f, rfl⟩ : ∃ g, f = g + 1 := ⟨f - 1, by omega⟩
              exact hX post i f hi hf (r2 post (i + 1) f (by omega) (by omega) hp)
            · obtain ⟨f, rfl⟩ : ∃ g, f = g + 1 := ⟨f - 1, by omega⟩
              exact hY post f (r3 post f (by omega) hp)
end
