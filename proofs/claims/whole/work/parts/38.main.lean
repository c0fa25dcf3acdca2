/-! the run, to its end -/
def xL (post : SX → Prop) (N i : Nat) (u : SX) : Prop := match u with
  | (x_textLength, x_pairCount, x_placeCount, x_procedureCount, x_continuationCount, x_frameCount, x_state, x_ending, x_form, x_environment, x_frame, x_value, x_applied, x_argumentCount, x_countedCount, x_consCount, x_entryCount, x_outputCount, x_itemCount, x_text, x_firsts, x_rests, x_placeNames, x_placeValues, x_placeOuters, x_procedureParts, x_procedurePlaces, x_continuationFrames, x_frameTasks, x_frameForms, x_frameValues, x_framePlaces, x_frameNexts, x_arguments, x_outputs, x_itemKinds, x_itemNumbers, x_openLists) => wX_perform_49 post N (nI i) x_textLength x_pairCount x_placeCount x_procedureCount x_continuationCount x_frameCount x_state x_ending x_form x_environment x_frame x_value x_applied x_argumentCount x_countedCount x_consCount x_entryCount x_outputCount x_itemCount x_text x_firsts x_rests x_placeNames x_placeValues x_placeOuters x_procedureParts x_procedurePlaces x_continuationFrames x_frameTasks x_frameForms x_frameValues x_framePlaces x_frameNexts x_arguments x_outputs x_itemKinds x_itemNumbers x_openLists
def yL (post : SY → Prop) (N : Nat) (v : SY) : Prop := match v with
  | (y_size, y_pairs, y_open, y_formCount, y_places, y_procedures, y_continuationCount, y_things, y_foundCount, y_argumentCount, y_value, y_form, y_wherein, y_next, y_working, y_ending, y_counts, y_made, y_entered, y_printCount, y_itemCount, y_text, y_firsts, y_rests, y_heads, y_lasts, y_globals, y_placeNames, y_placeValues, y_placeNexts, y_procedureForms, y_procedurePlaces, y_continuations, y_whats, y_withs, y_whereins, y_soFars, y_afters, y_found, y_foundNexts, y_arguments, y_prints, y_itemKinds, y_itemNumbers, y_pile) => wY_runText_129 post N y_size y_pairs y_open y_formCount y_places y_procedures y_continuationCount y_things y_foundCount y_argumentCount y_value y_form y_wherein y_next y_working y_ending y_counts y_made y_entered y_printCount y_itemCount y_text y_firsts y_rests y_heads y_lasts y_globals y_placeNames y_placeValues y_placeNexts y_procedureForms y_procedurePlaces y_continuations y_whats y_withs y_whereins y_soFars y_afters y_found y_foundNexts y_arguments y_prints y_itemKinds y_itemNumbers y_pile
def xEnd (post : SX → Prop) (u : SX) : Prop := match u with
  | (x_textLength, x_pairCount, x_placeCount, x_procedureCount, x_continuationCount, x_frameCount, x_state, x_ending, x_form, x_environment, x_frame, x_value, x_applied, x_argumentCount, x_countedCount, x_consCount, x_entryCount, x_outputCount, x_itemCount, x_text, x_firsts, x_rests, x_placeNames, x_placeValues, x_placeOuters, x_procedureParts, x_procedurePlaces, x_continuationFrames, x_frameTasks, x_frameForms, x_frameValues, x_framePlaces, x_frameNexts, x_arguments, x_outputs, x_itemKinds, x_itemNumbers, x_openLists) => wX_perform_102 post x_textLength x_pairCount x_placeCount x_procedureCount x_continuationCount x_frameCount x_state x_ending x_form x_environment x_frame x_value x_applied x_argumentCount x_countedCount x_consCount x_entryCount x_outputCount x_itemCount x_text x_firsts x_rests x_placeNames x_placeValues x_placeOuters x_procedureParts x_procedurePlaces x_continuationFrames x_frameTasks x_frameForms x_frameValues x_framePlaces x_frameNexts x_arguments x_outputs x_itemKinds x_itemNumbers x_openLists
def yEnd (post : SY → Prop) (v : SY) : Prop := match v with
  | (y_size, y_pairs, y_open, y_formCount, y_places, y_procedures, y_continuationCount, y_things, y_foundCount, y_argumentCount, y_value, y_form, y_wherein, y_next, y_working, y_ending, y_counts, y_made, y_entered, y_printCount, y_itemCount, y_text, y_firsts, y_rests, y_heads, y_lasts, y_globals, y_placeNames, y_placeValues, y_placeNexts, y_procedureForms, y_procedurePlaces, y_continuations, y_whats, y_withs, y_whereins, y_soFars, y_afters, y_found, y_foundNexts, y_arguments, y_prints, y_itemKinds, y_itemNumbers, y_pile) => wY_runText_173 post y_size y_pairs y_open y_formCount y_places y_procedures y_continuationCount y_things y_foundCount y_argumentCount y_value y_form y_wherein y_next y_working y_ending y_counts y_made y_entered y_printCount y_itemCount y_text y_firsts y_rests y_heads y_lasts y_globals y_placeNames y_placeValues y_placeNexts y_procedureForms y_procedurePlaces y_continuations y_whats y_withs y_whereins y_soFars y_afters y_found y_foundNexts y_arguments y_prints y_itemKinds y_itemNumbers y_pile
/-- ended with a value -/
def sm_D (T : Nat → Nat) (n : Nat) (u : SX) (v : SY) : Prop := ∃ M G px py pl np nc nf fo co cn et pc, sm_R T n M G px py pl np nc nf fo co cn et pc u v ∧ fo ≤ co ∧
  match u, v with
  | (x_textLength, x_pairCount, x_placeCount, x_procedureCount, x_continuationCount, x_frameCount, x_state, x_ending, x_form, x_environment, x_frame, x_value, x_applied, x_argumentCount, x_countedCount, x_consCount, x_entryCount, x_outputCount, x_itemCount, x_text, x_firsts, x_rests, x_placeNames, x_placeValues, x_placeOuters, x_procedureParts, x_procedurePlaces, x_continuationFrames, x_frameTasks, x_frameForms, x_frameValues, x_framePlaces, x_frameNexts, x_arguments, x_outputs, x_itemKinds, x_itemNumbers, x_openLists), (y_size, y_pairs, y_open, y_formCount, y_places, y_procedures, y_continuationCount, y_things, y_foundCount, y_argumentCount, y_value, y_form, y_wherein, y_next, y_working, y_ending, y_counts, y_made, y_entered, y_printCount, y_itemCount, y_text, y_firsts, y_rests, y_heads, y_lasts, y_globals, y_placeNames, y_placeValues, y_placeNexts, y_procedureForms, y_procedurePlaces, y_continuations, y_whats, y_withs, y_whereins, y_soFars, y_afters, y_found, y_foundNexts, y_arguments, y_prints, y_itemKinds, y_itemNumbers, y_pile) => x_ending = 0 ∧ y_ending = -1000000003 ∧ zv_V M np nc y_value x_value
section
variable {T : Nat → Nat} {n : Nat}
theorem sm_E_x {u : SX} {v : SY} (h : sm_E T n u v) {post : SX → Prop} {N i : Nat} (hi : i < 1000000) (hp : xEnd post u) : xL post (N + 1) i u := by
  obtain ⟨x_textLength, x_pairCount, x_placeCount, x_procedureCount, x_continuationCount, x_frameCount, x_state, x_ending, x_form, x_environment, x_frame, x_value, x_applied, x_argumentCount, x_countedCount, x_consCount, x_entryCount, x_outputCount, x_itemCount, x_text, x_firsts, x_rests, x_placeNames, x_placeValues, x_placeOuters, x_procedureParts, x_procedurePlaces, x_continuationFrames, x_frameTasks, x_frameForms, x_frameValues, x_framePlaces, x_frameNexts, x_arguments, x_outputs, x_itemKinds, x_itemNumbers, x_openLists⟩ := u
  obtain ⟨y_size, y_pairs, y_open, y_formCount, y_places, y_procedures, y_continuationCount, y_things, y_foundCount, y_argumentCount, y_value, y_form, y_wherein, y_next, y_working, y_ending, y_counts, y_made, y_entered, y_printCount, y_itemCount, y_text, y_firsts, y_rests, y_heads, y_lasts, y_globals, y_placeNames, y_placeValues, y_placeNexts, y_procedureForms, y_procedurePlaces, y_continuations, y_whats, y_withs, y_whereins, y_soFars, y_afters, y_found, y_foundNexts, y_arguments, y_prints, y_itemKinds, y_itemNumbers, y_pile⟩ := v
  obtain ⟨e, pc, _, h1, h2, _, h3, _⟩ := h
  subst h3
  refine br_f (nI_ge (b := 1000000) hi (by decide)) (br_f ?_ hp)
  exact ap_m1 (by omega)
theorem sm_E_y {u : SX} {v : SY} (h : sm_E T n u v) {post : SY → Prop} {N : Nat} (hp : yEnd post v) : yL post (N + 1) v := by
  obtain ⟨x_textLength, x_pairCount, x_placeCount, x_procedureCount, x_continuationCount, x_frameCount, x_state, x_ending, x_form, x_environment, x_frame, x_value, x_applied, x_argumentCount, x_countedCount, x_consCount, x_entryCount, x_outputCount, x_itemCount, x_text, x_firsts, x_rests, x_placeNames, x_placeValues, x_placeOuters, x_procedureParts, x_procedurePlaces, x_continuationFrames, x_frameTasks, x_frameForms, x_frameValues, x_framePlaces, x_frameNexts, x_arguments, x_outputs, x_itemKinds, x_itemNumbers, x_openLists⟩ := u
  obtain ⟨y_size, y_pairs, y_open, y_formCount, y_places, y_procedures, y_continuationCount, y_things, y_foundCount, y_argumentCount, y_value, y_form, y_wherein, y_next, y_working, y_ending, y_counts, y_made, y_entered, y_printCount, y_itemCount, y_text, y_firsts, y_rests, y_heads, y_lasts, y_globals, y_placeNames, y_placeValues, y_placeNexts, y_procedureForms, y_procedurePlaces, y_continuations, y_whats, y_withs, y_whereins, y_soFars, y_afters, y_found, y_foundNexts, y_arguments, y_prints, y_itemKinds, y_itemNumbers, y_pile⟩ := v
  obtain ⟨e, pc, _, h1, h2, _, _, h3, _⟩ := h
  subst h3
  refine br_f (fun z => ?_) hp
  have := nI_pos (n := e) (by omega)
  rw [z] at this
  exact this (by decide)
/-- the steps of an application -/
theorem st_App : ∀ d co g u v, 600 - co = d → co ≤ 600 → sm_A T n co g u v → ∃ u' v' co' k, (sm_E T n u' v' ∨ (co < co' ∧ co' ≤ 600 ∧ sm_to T n co' u' v')) ∧ k ≤ 601 - co ∧
    (∀ (post : SX → Prop) (N i : Nat), i + k ≤ 999999 → xL post N (i + k) u' → xL post (N + k) i u) ∧ (∀ post : SY → Prop, post v' → ∃ f, yA_loop post f g v) := by
  intro d
  induction d with
  | zero =>
    intro co g u v hd hco h
    obtain ⟨x_textLength, x_pairCount, x_placeCount, x_procedureCount, x_continuationCount, x_frameCount, x_state, x_ending, x_form, x_environment, x_frame, x_value, x_applied, x_argumentCount, x_countedCount, x_consCount, x_entryCount, x_outputCount, x_itemCount, x_text, x_firsts, x_rests, x_placeNames, x_placeValues, x_placeOuters, x_procedureParts, x_procedurePlaces, x_continuationFrames, x_frameTasks, x_frameForms, x_frameValues, x_framePlaces, x_frameNexts, x_arguments, x_outputs, x_itemKinds, x_itemNumbers, x_openLists⟩ := u
    obtain ⟨y_size, y_pairs, y_open, y_formCount, y_places, y_procedures, y_continuationCount, y_things, y_foundCount, y_argumentCount, y_value, y_form, y_wherein, y_next, y_working, y_ending, y_counts, y_made, y_entered, y_printCount, y_itemCount, y_text, y_firsts, y_rests, y_heads, y_lasts, y_globals, y_placeNames, y_placeValues, y_placeNexts, y_procedureForms, y_procedurePlaces, y_continuations, y_whats, y_withs, y_whereins, y_soFars, y_afters, y_found, y_foundNexts, y_arguments, y_prints, y_itemKinds, y_itemNumbers, y_pile⟩ := v
    have hs : x_state = 1 ∧ x_ending = -1 := by
      obtain ⟨M, G, px, py, pl, np, nc, nf, fo, cn, et, pc, ac, _, _, s1, s2, _⟩ := h
      exact ⟨s1, s2⟩
    rcases st_A h with ⟨u', v', hX, hY, hr⟩ | ⟨u', v', g', _, _, hlt, _⟩
    · refine ⟨u', v', co + 1, 1, hr.elim Or.inl (fun z => Or.inr ⟨by omega, by omega, z.2⟩), by omega, fun post N i hi hp => ?_, fun post hp => ⟨2, hY post 0 hp⟩⟩
      refine br_f (nI_ge (b := 1000000) (by omega) (by decide)) (br_t hs.2 (br_f (by rw [hs.1]; decide) (br_t hs.1 (hX _ ?_))))
      obtain ⟨x_textLength, x_pairCount, x_placeCount, x_procedureCount, x_continuationCount, x_frameCount, x_state, x_ending, x_form, x_environment, x_frame, x_value, x_applied, x_argumentCount, x_countedCount, x_consCount, x_entryCount, x_outputCount, x_itemCount, x_text, x_firsts, x_rests, x_placeNames, x_placeValues, x_placeOuters, x_procedureParts, x_procedurePlaces, x_continuationFrames, x_frameTasks, x_frameForms, x_frameValues, x_framePlaces, x_frameNexts, x_arguments, x_outputs, x_itemKinds, x_itemNumbers, x_openLists⟩ := u'
      exact nm_r (nI_1 i) hp
    · omega
  | succ d ih =>
    intro co g u v hd hco h
    obtain ⟨x_textLength, x_pairCount, x_placeCount, x_procedureCount, x_continuationCount, x_frameCount, x_state, x_ending, x_form, x_environment, x_frame, x_value, x_applied, x_argumentCount, x_countedCount, x_consCount, x_entryCount, x_outputCount, x_itemCount, x_text, x_firsts, x_rests, x_placeNames, x_placeValues, x_placeOuters, x_procedureParts, x_procedurePlaces, x_continuationFrames, x_frameTasks, x_frameForms, x_frameValues, x_framePlaces, x_frameNexts, x_arguments, x_outputs, x_itemKinds, x_itemNumbers, x_openLists⟩ := u
    obtain ⟨y_size, y_pairs, y_open, y_formCount, y_places, y_procedures, y_continuationCount, y_things, y_foundCount, y_argumentCount, y_value, y_form, y_wherein, y_next, y_working, y_ending, y_counts, y_made, y_entered, y_printCount, y_itemCount, y_text, y_firsts, y_rests, y_heads, y_lasts, y_globals, y_placeNames, y_placeValues, y_placeNexts, y_procedureForms, y_procedurePlaces, y_continuations, y_whats, y_withs, y_whereins, y_soFars, y_afters, y_found, y_foundNexts, y_arguments, y_prints, y_itemKinds, y_itemNumbers, y_pile⟩ := v
    have hs : x_state = 1 ∧ x_ending = -1 := by
      obtain ⟨M, G, px, py, pl, np, nc, nf, fo, cn, et, pc, ac, _, _, s1, s2, _⟩ := h
      exact ⟨s1, s2⟩
    have step : ∀ u', (∀ post : SX → Prop, post u' → wpX_applyNow post (x_textLength, x_pairCount, x_placeCount, x_procedureCount, x_continuationCount, x_frameCount, x_state, x_ending, x_form, x_environment, x_frame, x_value, x_applied, x_argumentCount, x_countedCount, x_consCount, x_entryCount, x_outputCount, x_itemCount, x_text, x_firsts, x_rests, x_placeNames, x_placeValues, x_placeOuters, x_procedureParts, x_procedurePlaces, x_continuationFrames, x_frameTasks, x_frameForms, x_frameValues, x_framePlaces, x_frameNexts, x_arguments, x_outputs, x_itemKinds, x_itemNumbers, x_openLists)) → ∀ (post : SX → Prop) (N i : Nat), i < 1000000 → xL post N (i + 1) u' → xL post (N + 1) i (x_textLength, x_pairCount, x_placeCount, x_procedureCount, x_continuationCount, x_frameCount, x_state, x_ending, x_form, x_environment, x_frame, x_value, x_applied, x_argumentCount, x_countedCount, x_consCount, x_entryCount, x_outputCount, x_itemCount, x_text, x_firsts, x_rests, x_placeNames, x_placeValues, x_placeOuters, x_procedureParts, x_procedurePlaces, x_continuationFrames, x_frameTasks, x_frameForms, x_frameValues, x_framePlaces, x_frameNexts, x_arguments, x_outputs, x_itemKinds, x_itemNumbers, x_openLists) := by
      intro u' hX post N i hi hp
      refine br_f (nI_ge (b := 1000000) hi (by decide)) (br_t hs.2 (br_f (by rw [hs.1]; decide) (br_t hs.1 (hX _ ?_))))
      obtain ⟨x_textLength, x_pairCount, x_placeCount, x_procedureCount, x_continuationCount, x_frameCount, x_state, x_ending, x_form, x_environment, x_frame, x_value, x_applied, x_argumentCount, x_countedCount, x_consCount, x_entryCount, x_outputCount, x_itemCount, x_text, x_firsts, x_rests, x_placeNames, x_placeValues, x_placeOuters, x_procedureParts, x_procedurePlaces, x_continuationFrames, x_frameTasks, x_frameForms, x_frameValues, x_framePlaces, x_frameNexts, x_arguments, x_outputs, x_itemKinds, x_itemNumbers, x_openLists⟩ := u'
      exact nm_r (nI_1 i) hp
    rcases st_A h with ⟨u', v', hX, hY, hr⟩ | ⟨u', v', g', hX, hY, hlt, hA⟩
    · exact ⟨u', v', co + 1, 1, hr.elim Or.inl (fun z => Or.inr ⟨by omega, by omega, z.2⟩), by omega, fun post N i hi hp => step u' hX post N i (by omega) hp, fun post hp => ⟨2, hY post 0 hp⟩⟩
    · obtain ⟨u2, v2, co', k, hr, hk, hX2, hY2⟩ := ih (co + 1) g' u' v' (by omega) (by omega) hA
      refine ⟨u2, v2, co', k + 1, hr.elim Or.inl (fun z => Or.inr ⟨by omega, z.2.1, z.2.2⟩), by omega, fun post N i hi hp => ?_, fun post hp => ?_⟩
      · have := hX2 post N (i + 1) (by omega) (by rw [show i + 1 + k = i + (k + 1) by omega]; exact hp)
        exact step u' hX post (N + k) i (by omega) this
      · obtain ⟨f, hf⟩ := hY2 post hp
        exact ⟨f + 1, hY post f hf⟩
theorem st_main : ∀ μ co u v, (sm_F T n co u v ∧ μ = (601 - co) * 1500 ∨ ∃ f, f ≤ 600 ∧ sm_V T n co f u v ∧ μ = (601 - co) * 1500 + f + 1) →
    ∃ u' v', (sm_E T n u' v' ∨ sm_D T n u' v') ∧ (∀ (post : SX → Prop) (N i : Nat), μ + 1 < N → i + μ ≤ 999990 → xEnd post u' → xL post N i u) ∧ (∀ (post : SY → Prop) (N : Nat), μ + 1 < N → yEnd post v' → yL post N v) := by
  intro μ
  induction μ using Nat.strongRecOn with
  | ind μ ih =>
    intro co u v h
    -- the target of a step, by the induction
    have go : ∀ co' u1 v1, co < co' → co' ≤ 600 → (601 - co) * 1500 ≤ μ → sm_to T n co' u1 v1 → ∃ u' v', (sm_E T n u' v' ∨ sm_D T n u' v') ∧ (∀ (post : SX → Prop) (N i : Nat), μ < N + 850 → i + μ ≤ 999990 + 850 → i < 999990 → xEnd post u' → xL post N i u1) ∧ (∀ (post : SY → Prop) (N : Nat), μ < N + 850 → yEnd post v' → yL post N v1) := by
      intro co' u1 v1 h1 h2 h3 ht
      rcases ht with hE | hF | ⟨f, hf, hV⟩
      · refine ⟨u1, v1, Or.inl hE, fun post N i hN _ hi hp => ?_, fun post N hN hp => ?_⟩
        · obtain ⟨N, rfl⟩ : ∃ m, N = m + 1 := ⟨N - 1, by omega⟩
          exact sm_E_x hE (by omega) hp
        · obtain ⟨N, rfl⟩ : ∃ m, N = m + 1 := ⟨N - 1, by omega⟩
          exact sm_E_y hE hp
      · obtain ⟨u', v', hr, hX, hY⟩ := ih ((601 - co') * 1500) (by omega) co' u1 v1 (Or.inl ⟨hF, rfl⟩)
        exact ⟨u', v', hr, fun post N i hN hi _ hp => hX post N i (by omega) (by omega) hp, fun post N hN hp => hY post N (by omega) hp⟩
      · obtain ⟨u', v', hr, hX, hY⟩ := ih ((601 - co') * 1500 + f + 1) (by omega) co' u1 v1 (Or.inr ⟨f, by omega, hV, rfl⟩)
        exact ⟨u', v', hr, fun post N i hN hi _ hp => hX post N i (by omega) (by omega) hp, fun post N hN hp => hY post N (by omega) hp⟩
    obtain ⟨x_textLength, x_pairCount, x_placeCount, x_procedureCount, x_continuationCount, x_frameCount, x_state, x_ending, x_form, x_environment, x_frame, x_value, x_applied, x_argumentCount, x_countedCount, x_consCount, x_entryCount, x_outputCount, x_itemCount, x_text, x_firsts, x_rests, x_placeNames, x_placeValues, x_placeOuters, x_procedureParts, x_procedurePlaces, x_continuationFrames, x_frameTasks, x_frameForms, x_frameValues, x_framePlaces, x_frameNexts, x_arguments, x_outputs, x_itemKinds, x_itemNumbers, x_openLists⟩ := u
    obtain ⟨y_size, y_pairs, y_open, y_formCount, y_places, y_procedures, y_continuationCount, y_things, y_foundCount, y_argumentCount, y_value, y_form, y_wherein, y_next, y_working, y_ending, y_counts, y_made, y_entered, y_printCount, y_itemCount, y_text, y_firsts, y_rests, y_heads, y_lasts, y_globals, y_placeNames, y_placeValues, y_placeNexts, y_procedureForms, y_procedurePlaces, y_continuations, y_whats, y_withs, y_whereins, y_soFars, y_afters, y_found, y_foundNexts, y_arguments, y_prints, y_itemKinds, y_itemNumbers, y_pile⟩ := v
    rcases h with ⟨hF, hμ⟩ | ⟨f, hf6, hV, hμ⟩
    · have hs : x_state = 0 ∧ x_ending = -1 ∧ y_ending = -1000000003 ∧ y_working = 1 ∧ co ≤ 600 := by
        obtain ⟨M, G, px, py, pl, np, nc, nf, fo, cn, et, pc, j, hr, _, s1, s2, s3, s4, _⟩ := hF
        exact ⟨s1, s2, s3, s4, hr.2.2.2.1.1⟩
      obtain ⟨u1, v1, hX, hY, hr⟩ := st_F hF
      have stepX : ∀ (post : SX → Prop) (N i : Nat), i < 1000000 → xL post N (i + 1) u1 → xL post (N + 1) i (x_textLength, x_pairCount, x_placeCount, x_procedureCount, x_continuationCount, x_frameCount, x_state, x_ending, x_form, x_environment, x_frame, x_value, x_applied, x_argumentCount, x_countedCount, x_consCount, x_entryCount, x_outputCount, x_itemCount, x_text, x_firsts, x_rests, x_placeNames, x_placeValues, x_placeOuters, x_procedureParts, x_procedurePlaces, x_continuationFrames, x_frameTasks, x_frameForms, x_frameValues, x_framePlaces, x_frameNexts, x_arguments, x_outputs, x_itemKinds, x_itemNumbers, x_openLists) := by
        intro post N i hi hp
        refine br_f (nI_ge (b := 1000000) hi (by decide)) (br_t hs.2.1 (br_t hs.1 (hX _ ?_)))
        obtain ⟨x_textLength, x_pairCount, x_placeCount, x_procedureCount, x_continuationCount, x_frameCount, x_state, x_ending, x_form, x_environment, x_frame, x_value, x_applied, x_argumentCount, x_countedCount, x_consCount, x_entryCount, x_outputCount, x_itemCount, x_text, x_firsts, x_rests, x_placeNames, x_placeValues, x_placeOuters, x_procedureParts, x_procedurePlaces, x_continuationFrames, x_frameTasks, x_frameForms, x_frameValues, x_framePlaces, x_frameNexts, x_arguments, x_outputs, x_itemKinds, x_itemNumbers, x_openLists⟩ := u1
        exact nm_r (nI_1 i) hp
      have stepY : ∀ (post : SY → Prop) (N : Nat), yL post N v1 → yL post (N + 1) (y_size, y_pairs, y_open, y_formCount, y_places, y_procedures, y_continuationCount, y_things, y_foundCount, y_argumentCount, y_value, y_form, y_wherein, y_next, y_working, y_ending, y_counts, y_made, y_entered, y_printCount, y_itemCount, y_text, y_firsts, y_rests, y_heads, y_lasts, y_globals, y_placeNames, y_placeValues, y_placeNexts, y_procedureForms, y_procedurePlaces, y_continuations, y_whats, y_withs, y_whereins, y_soFars, y_afters, y_found, y_foundNexts, y_arguments, y_prints, y_itemKinds, y_itemNumbers, y_pile) := by
        intro post N hp
        have hw : ¬ y_working = 0 := by rw [hs.2.2.2.1]; decide
        refine br_t hs.2.2.1 (br_f hw (br_f hw (hY _ ?_)))
        obtain ⟨y_size, y_pairs, y_open, y_formCount, y_places, y_procedures, y_continuationCount, y_things, y_foundCount, y_argumentCount, y_value, y_form, y_wherein, y_next, y_working, y_ending, y_counts, y_made, y_entered, y_printCount, y_itemCount, y_text, y_firsts, y_rests, y_heads, y_lasts, y_globals, y_placeNames, y_placeValues, y_placeNexts, y_procedureForms, y_procedurePlaces, y_continuations, y_whats, y_withs, y_whereins, y_soFars, y_afters, y_found, y_foundNexts, y_arguments, y_prints, y_itemKinds, y_itemNumbers, y_pile⟩ := v1
        exact hp
      have hfin : ∃ u' v', (sm_E T n u' v' ∨ sm_D T n u' v') ∧ (∀ (post : SX → Prop) (N i : Nat), μ < N + 850 → i + μ ≤ 999990 + 850 → i < 999990 → xEnd post u' → xL post N i u1) ∧ (∀ (post : SY → Prop) (N : Nat), μ < N + 850 → yEnd post v' → yL post N v1) := by
        rcases hr with hE | ⟨hlt, ht⟩
        · refine ⟨u1, v1, Or.inl hE, fun post N i hN _ hi hp => ?_, fun post N hN hp => ?_⟩
          · obtain ⟨N, rfl⟩ : ∃ m, N = m + 1 := ⟨N - 1, by omega⟩
            exact sm_E_x hE (by omega) hp
          · obtain ⟨N, rfl⟩ : ∃ m, N = m + 1 := ⟨N - 1, by omega⟩
            exact sm_E_y hE hp
        · exact go (co + 1) u1 v1 (by omega) (by omega) (by omega) ht
      obtain ⟨u', v', hr', hX', hY'⟩ := hfin
      refine ⟨u', v', hr', fun post N i hN hi hp => ?_, fun post N hN hp => ?_⟩
      · obtain ⟨N, rfl⟩ : ∃ m, N = m + 1 := ⟨N - 1, by omega⟩
        exact stepX post N i (by omega) (hX' post N (i + 1) (by omega) (by omega) (by omega) hp)
      · obtain ⟨N, rfl⟩ : ∃ m, N = m + 1 := ⟨N - 1, by omega⟩
        exact stepY post N (hY' post N (by omega) hp)
    · have hs : x_state = 2 ∧ x_ending = -1 ∧ y_ending = -1000000003 ∧ y_working = 0 ∧ co ≤ 600 := by
        obtain ⟨M, G, px, py, pl, np, nc, nf, fo, cn, et, pc, hr, _, s1, s2, s3, s4, _⟩ := hV
        exact ⟨s1, s2, s3, s4, hr.2.2.2.1.1⟩
      have stepX : ∀ u1, (∀ post : SX → Prop, post u1 → wpX_goOn post (x_textLength, x_pairCount, x_placeCount, x_procedureCount, x_continuationCount, x_frameCount, x_state, x_ending, x_form, x_environment, x_frame, x_value, x_applied, x_argumentCount, x_countedCount, x_consCount, x_entryCount, x_outputCount, x_itemCount, x_text, x_firsts, x_rests, x_placeNames, x_placeValues, x_placeOuters, x_procedureParts, x_procedurePlaces, x_continuationFrames, x_frameTasks, x_frameForms, x_frameValues, x_framePlaces, x_frameNexts, x_arguments, x_outputs, x_itemKinds, x_itemNumbers, x_openLists)) → ∀ (post : SX → Prop) (N i : Nat), i < 1000000 → xL post N (i + 1) u1 → xL post (N + 1) i (x_textLength, x_pairCount, x_placeCount, x_procedureCount, x_continuationCount, x_frameCount, x_state, x_ending, x_form, x_environment, x_frame, x_value, x_applied, x_argumentCount, x_countedCount, x_consCount, x_entryCount, x_outputCount, x_itemCount, x_text, x_firsts, x_rests, x_placeNames, x_placeValues, x_placeOuters, x_procedureParts, x_procedurePlaces, x_continuationFrames, x_frameTasks, x_frameForms, x_frameValues, x_framePlaces, x_frameNexts, x_arguments, x_outputs, x_itemKinds, x_itemNumbers, x_openLists) := by
        intro u1 hX post N i hi hp
        refine br_f (nI_ge (b := 1000000) hi (by decide)) (br_t hs.2.1 (br_f (by rw [hs.1]; decide) (br_f (by rw [hs.1]; decide) (hX _ ?_))))
        obtain ⟨x_textLength, x_pairCount, x_placeCount, x_procedureCount, x_continuationCount, x_frameCount, x_state, x_ending, x_form, x_environment, x_frame, x_value, x_applied, x_argumentCount, x_countedCount, x_consCount, x_entryCount, x_outputCount, x_itemCount, x_text, x_firsts, x_rests, x_placeNames, x_placeValues, x_placeOuters, x_procedureParts, x_procedurePlaces, x_continuationFrames, x_frameTasks, x_frameForms, x_frameValues, x_framePlaces, x_frameNexts, x_arguments, x_outputs, x_itemKinds, x_itemNumbers, x_openLists⟩ := u1
        exact nm_r (nI_1 i) hp
      by_cases hf0 : f = 0
      · subst hf0
        obtain ⟨M, G, px, py, pl, np, nc, nf, fo, cn, et, pc, hr, hb, s1, s2, s3, s4, hW, s5, s6⟩ := hV
        have hn : y_next = -1 := by
          rcases s6 with z | ⟨m, _, z, _⟩
          · exact z.2
          · omega
        refine ⟨(x_textLength, x_pairCount, x_placeCount, x_procedureCount, x_continuationCount, x_frameCount, x_state, 0, x_form, x_environment, x_frame, x_value, x_applied, x_argumentCount, x_countedCount, x_consCount, x_entryCount, x_outputCount, x_itemCount, x_text, x_firsts, x_rests, x_placeNames, x_placeValues, x_placeOuters, x_procedureParts, x_procedurePlaces, x_continuationFrames, x_frameTasks, x_frameForms, x_frameValues, x_framePlaces, x_frameNexts, x_arguments, x_outputs, x_itemKinds, x_itemNumbers, x_openLists), (y_size, y_pairs, y_open, y_formCount, y_places, y_procedures, y_continuationCount, y_things, y_foundCount, y_argumentCount, y_value, y_form, y_wherein, y_next, y_working, y_ending, y_counts, y_made, y_entered, y_printCount, y_itemCount, y_text, y_firsts, y_rests, y_heads, y_lasts, y_globals, y_placeNames, y_placeValues, y_placeNexts, y_procedureForms, y_procedurePlaces, y_continuations, y_whats, y_withs, y_whereins, y_soFars, y_afters, y_found, y_foundNexts, y_arguments, y_prints, y_itemKinds, y_itemNumbers, y_pile), Or.inr ⟨M, G, px, py, pl, np, nc, nf, fo, co, cn, et, pc, rk_ig hr, hb.1, rfl, s3, hW⟩, fun post N i hN hi hp => ?_, fun post N hN hp => ?_⟩
        · obtain ⟨N, rfl⟩ : ∃ m, N = m + 1 + 1 := ⟨N - 2, by omega⟩
          refine stepX _ (fun q hq => br_t (by rw [s5, hn]) hq) post (N + 1) i (by omega) ?_
          exact br_f (nI_ge (b := 1000000) (by omega) (by decide)) (br_f (by decide) hp)
        · obtain ⟨N, rfl⟩ : ∃ m, N = m + 1 := ⟨N - 1, by omega⟩
          exact br_t s3 (br_t s4 (br_t (by rw [hn]; decide) hp))
      · have hnn : ¬ y_next < 0 := by
          obtain ⟨M, G, px, py, pl, np, nc, nf, fo, cn, et, pc, hr, hb, s1, s2, s3, s4, hW, s5, s6⟩ := hV
          rcases s6 with z | ⟨m, m1, _, z⟩
          · exact absurd z.1 hf0
          · rw [z]; exact nI_pos (by omega)
        have stepY : ∀ (post : SY → Prop) (N : Nat), wpY_goOn (fun u => match u with | (y_size, y_pairs, y_open, y_formCount, y_places, y_procedures, y_continuationCount, y_things, y_foundCount, y_argumentCount, y_value, y_form, y_wherein, y_next, y_working, y_ending, y_counts, y_made, y_entered, y_printCount, y_itemCount, y_text, y_firsts, y_rests, y_heads, y_lasts, y_globals, y_placeNames, y_placeValues, y_placeNexts, y_procedureForms, y_procedurePlaces, y_continuations, y_whats, y_withs, y_whereins, y_soFars, y_afters, y_found, y_foundNexts, y_arguments, y_prints, y_itemKinds, y_itemNumbers, y_pile) => wY_runText_129 post N y_size y_pairs y_open y_formCount y_places y_procedures y_continuationCount y_things y_foundCount y_argumentCount y_value y_form y_wherein y_next y_working y_ending y_counts y_made y_entered y_printCount y_itemCount y_text y_firsts y_rests y_heads y_lasts y_globals y_placeNames y_placeValues y_placeNexts y_procedureForms y_procedurePlaces y_continuations y_whats y_withs y_whereins y_soFars y_afters y_found y_foundNexts y_arguments y_prints y_itemKinds y_itemNumbers y_pile) (y_size, y_pairs, y_open, y_formCount, y_places, y_procedures, y_continuationCount, y_things, y_foundCount, y_argumentCount, y_value, y_form, y_wherein, y_next, y_working, y_ending, y_counts, y_made, y_entered, y_printCount, y_itemCount, y_text, y_firsts, y_rests, y_heads, y_lasts, y_globals, y_placeNames, y_placeValues, y_placeNexts, y_procedureForms, y_procedurePlaces, y_continuations, y_whats, y_withs, y_whereins, y_soFars, y_afters, y_found, y_foundNexts, y_arguments, y_prints, y_itemKinds, y_itemNumbers, y_pile) → yL post (N + 1) (y_size, y_pairs, y_open, y_formCount, y_places, y_procedures, y_continuationCount, y_things, y_foundCount, y_argumentCount, y_value, y_form, y_wherein, y_next, y_working, y_ending, y_counts, y_made, y_entered, y_printCount, y_itemCount, y_text, y_firsts, y_rests, y_heads, y_lasts, y_globals, y_placeNames, y_placeValues, y_placeNexts, y_procedureForms, y_procedurePlaces, y_continuations, y_whats, y_withs, y_whereins, y_soFars, y_afters, y_found, y_foundNexts, y_arguments, y_prints, y_itemKinds, y_itemNumbers, y_pile) := fun post N hp => br_t hs.2.2.1 (br_t hs.2.2.2.1 (br_f hnn (br_t hs.2.2.2.1 hp)))
        rcases st_V hV hf0 with ⟨u1, v1, hX, hY, hr⟩ | ⟨u1, v1, g, hX, hY, hA⟩
        · have hfin : ∃ u' v', (sm_E T n u' v' ∨ sm_D T n u' v') ∧ (∀ (post : SX → Prop) (N i : Nat), μ < N → i + μ ≤ 999991 → i < 999991 → xEnd post u' → xL post N i u1) ∧ (∀ (post : SY → Prop) (N : Nat), μ < N → yEnd post v' → yL post N v1) := by
            rcases hr with hE | hF | ⟨f', hf', hV'⟩
            · refine ⟨u1, v1, Or.inl hE, fun post N i hN _ hi hp => ?_, fun post N hN hp => ?_⟩
              · obtain ⟨N, rfl⟩ : ∃ m, N = m + 1 := ⟨N - 1, by omega⟩
                exact sm_E_x hE (by omega) hp
              · obtain ⟨N, rfl⟩ : ∃ m, N = m + 1 := ⟨N - 1, by omega⟩
                exact sm_E_y hE hp
            · obtain ⟨u', v', hr, hX', hY'⟩ := ih ((601 - co) * 1500) (by omega) co u1 v1 (Or.inl ⟨hF, rfl⟩)
              exact ⟨u', v', hr, fun post N i hN hi _ hp => hX' post N i (by omega) (by omega) hp, fun post N hN hp => hY' post N (by omega) hp⟩
            · obtain ⟨u', v', hr, hX', hY'⟩ := ih ((601 - co) * 1500 + f' + 1) (by omega) co u1 v1 (Or.inr ⟨f', by omega, hV', rfl⟩)
              exact ⟨u', v', hr, fun post N i hN hi _ hp => hX' post N i (by omega) (by omega) hp, fun post N hN hp => hY' post N (by omega) hp⟩
          obtain ⟨u', v', hr', hX', hY'⟩ := hfin
          refine ⟨u', v', hr', fun post N i hN hi hp => ?_, fun post N hN hp => ?_⟩
          · obtain ⟨N, rfl⟩ : ∃ m, N = m + 1 := ⟨N - 1, by omega⟩
            exact stepX u1 hX post N i (by omega) (hX' post N (i + 1) (by omega) (by omega) (by omega) hp)
          · obtain ⟨N, rfl⟩ : ∃ m, N = m + 1 := ⟨N - 1, by omega⟩
            refine stepY post N (hY _ ?_)
            have := hY' post N (by omega) hp
            obtain ⟨y_size, y_pairs, y_open, y_formCount, y_places, y_procedures, y_continuationCount, y_things, y_foundCount, y_argumentCount, y_value, y_form, y_wherein, y_next, y_working, y_ending, y_counts, y_made, y_entered, y_printCount, y_itemCount, y_text, y_firsts, y_rests, y_heads, y_lasts, y_globals, y_placeNames, y_placeValues, y_placeNexts, y_procedureForms, y_procedurePlaces, y_continuations, y_whats, y_withs, y_whereins, y_soFars, y_afters, y_found, y_foundNexts, y_arguments, y_prints, y_itemKinds, y_itemNumbers, y_pile⟩ := v1
            exact this
        · obtain ⟨u2, v2, co', k, hr, hk, hX2, hY2⟩ := st_App _ co g u1 v1 rfl hs.2.2.2.2 hA
          have hfin : ∃ u' v', (sm_E T n u' v' ∨ sm_D T n u' v') ∧ (∀ (post : SX → Prop) (N i : Nat), μ < N + 850 → i + μ ≤ 999990 + 850 → i < 999990 → xEnd post u' → xL post N i u2) ∧ (∀ (post : SY → Prop) (N : Nat), μ < N + 850 → yEnd post v' → yL post N v2) := by
            rcases hr with hE | ⟨h1, h2, ht⟩
            · refine ⟨u2, v2, Or.inl hE, fun post N i hN _ hi hp => ?_, fun post N hN hp => ?_⟩
              · obtain ⟨N, rfl⟩ : ∃ m, N = m + 1 := ⟨N - 1, by omega⟩
                exact sm_E_x hE (by omega) hp
              · obtain ⟨N, rfl⟩ : ∃ m, N = m + 1 := ⟨N - 1, by omega⟩
                exact sm_E_y hE hp
            · exact go co' u2 v2 h1 h2 (by omega) ht
          obtain ⟨u', v', hr', hX', hY'⟩ := hfin
          refine ⟨u', v', hr', fun post N i hN hi hp => ?_, fun post N hN hp => ?_⟩
          · obtain ⟨N, rfl⟩ : ∃ m, N = m + k + 1 := ⟨N - k - 1, by omega⟩
            exact stepX u1 hX post (N + k) i (by omega) (hX2 post N (i + 1) (by omega) (hX' post N (i + 1 + k) (by omega) (by omega) (by omega) hp))
          · obtain ⟨N, rfl⟩ : ∃ m, N = m + 1 := ⟨N - 1, by omega⟩
            refine stepY post N (hY _ (fun q hq => hY2 q (hq _ ?_)))
            have := hY' post N (by omega) hp
            obtain ⟨y_size, y_pairs, y_open, y_formCount, y_places, y_procedures, y_continuationCount, y_things, y_foundCount, y_argumentCount, y_value, y_form, y_wherein, y_next, y_working, y_ending, y_counts, y_made, y_entered, y_printCount, y_itemCount, y_text, y_firsts, y_rests, y_heads, y_lasts, y_globals, y_placeNames, y_placeValues, y_placeNexts, y_procedureForms, y_procedurePlaces, y_continuations, y_whats, y_withs, y_whereins, y_soFars, y_afters, y_found, y_foundNexts, y_arguments, y_prints, y_itemKinds, y_itemNumbers, y_pile⟩ := v2
            exact this
end
