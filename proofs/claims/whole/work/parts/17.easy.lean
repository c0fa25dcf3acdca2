/-! the relation between calls; tokens, untoken, clear, reads, forms -/
def i_Rel (k : Nat) (u : SX) (v : SY) : Prop := ∃ T n, tx_R T n u v
theorem i_up {k : Nat} {u : SX} {v : SY} (h : i_Rel k u v) : i_Rel (k + 5) u v := h
theorem i_vc0 : wpX_init (fun u => wpY_init (fun v => i_Rel 0 u v)) := ⟨fun _ => 0, 0, by omega, fun i hi => by omega, rfl, rfl, fun i hi => by omega⟩
def ap_c (x : Int32) : Nat := if x = -1 then 0 else 1
def ap_a (A : Nat → Int32) (n : Nat) (x : Int32) : Nat → Int32 := if x = -1 then A else upd A n x
def ap_v (x : Int32) : Prop := x = -1 ∨ ∃ k, zv_tk k ∧ x = nI k
theorem ap_br {x : Int32} {A : Int32 → Prop} (h : A (nI (ap_c x))) : (x = -1 → A 0) ∧ (¬ x = -1 → A 1) := by
  unfold ap_c at h
  by_cases c : x = -1
  · rw [if_pos c] at h; exact br_t c h
  · rw [if_neg c] at h; exact br_f c h
theorem ap_m1 {k : Nat} (h : k < 2 ^ 31) : nI k ≠ -1 := fun z => nI_pos h (by rw [z]; decide)
theorem ap_v_neg {x : Int32} (h : x < 0) (h1 : x ≠ -1) : ¬ ap_v x ∧ x < -1 := by
  constructor
  · rintro (z | ⟨k, hk, z⟩)
    · exact h1 z
    · unfold zv_tk at hk
      rw [z] at h
      exact nI_pos (by omega) h
  · rw [Int32.lt_iff_toInt_lt] at h ⊢
    have e0 : (0 : Int32).toInt = 0 := by decide
    have e1 : (-1 : Int32).toInt = -1 := by decide
    have : x.toInt ≠ -1 := fun z => h1 (Int32.toInt_inj.mp (by rw [z, e1]))
    omega
theorem ap_v_nI {k : Nat} (h : k < 2 ^ 31) : ap_v (nI k) ↔ zv_tk k := by
  constructor
  · rintro (z | ⟨j, hj, z⟩)
    · exact absurd z (ap_m1 h)
    · have : j < 2 ^ 31 := by unfold zv_tk at hj; omega
      rw [(nI_eq h this).mp z]; exact hj
  · exact fun z => Or.inr ⟨k, z, rfl⟩
theorem xs_tok (x : Int32) {post : Int32 → Prop} (h1 : ap_v x → post 1) (h0 : ¬ ap_v x → post 0) : wpX_isTokenOrAbsent post x := by
  unfold wpX_isTokenOrAbsent wX_isTokenOrAbsent_10 wX_isTokenOrAbsent_22
  by_cases hneg : x < 0
  · by_cases hm : x = -1
    · subst hm
      exact br_f (by decide) (br_t (by decide) (h1 (Or.inl rfl)))
    · obtain ⟨nv, hl⟩ := ap_v_neg hneg hm
      have l10 : x < 10 := Int32.lt_trans hneg (by decide)
      have l50 : x < 50 := Int32.lt_trans hneg (by decide)
      exact br_t hl (br_t l10 (br_t l50 (h0 nv)))
  · obtain ⟨k, hk, rfl⟩ := nI_of hneg
    rw [ap_v_nI hk] at h1 h0
    unfold zv_tk at h1 h0
    have hm : ¬ nI k < -1 := fun z => nI_pos hk (Int32.lt_trans z (by decide))
    refine br_f hm (pk_le k 4 (fun _ => h1 (by omega)) (fun _ => pk_lt k 10 (fun _ => pk_lt k 50 (fun _ => h0 (by omega)) (fun _ => pk_lt 64 k (fun _ => h0 (by omega)) (fun _ => h1 (by omega)))) (fun _ => pk_le k 45 (fun _ => h1 (by omega)) (fun _ => pk_lt k 50 (fun _ => h0 (by omega)) (fun _ => pk_lt 64 k (fun _ => h0 (by omega)) (fun _ => h1 (by omega)))))))
section
variable {x_textLength : Int32} {x_pairCount : Int32} {x_placeCount : Int32} {x_procedureCount : Int32} {x_continuationCount : Int32} {x_frameCount : Int32} {x_state : Int32} {x_ending : Int32} {x_form : Int64} {x_environment : Int32} {x_frame : Int32} {x_value : Int64} {x_applied : Int64} {x_argumentCount : Int32} {x_countedCount : Int32} {x_consCount : Int32} {x_entryCount : Int32} {x_outputCount : Int32} {x_itemCount : Int32} {x_text : Nat → Int32} {x_firsts : Nat → Int64} {x_rests : Nat → Int64} {x_placeNames : Nat → Int32} {x_placeValues : Nat → Int64} {x_placeOuters : Nat → Int32} {x_procedureParts : Nat → Int64} {x_procedurePlaces : Nat → Int32} {x_continuationFrames : Nat → Int32} {x_frameTasks : Nat → Int32} {x_frameForms : Nat → Int64} {x_frameValues : Nat → Int64} {x_framePlaces : Nat → Int32} {x_frameNexts : Nat → Int32} {x_arguments : Nat → Int64} {x_outputs : Nat → Int32} {x_itemKinds : Nat → Int32} {x_itemNumbers : Nat → Int32} {x_openLists : Nat → Int64}
variable {y_size : Int32} {y_pairs : Int32} {y_open : Int32} {y_formCount : Int32} {y_places : Int32} {y_procedures : Int32} {y_continuationCount : Int32} {y_things : Int32} {y_foundCount : Int32} {y_argumentCount : Int32} {y_value : Int64} {y_form : Int64} {y_wherein : Int32} {y_next : Int32} {y_working : Int32} {y_ending : Int32} {y_counts : Int32} {y_made : Int32} {y_entered : Int32} {y_printCount : Int32} {y_itemCount : Int32} {y_text : Nat → Int32} {y_firsts : Nat → Int64} {y_rests : Nat → Int64} {y_heads : Nat → Int32} {y_lasts : Nat → Int32} {y_globals : Nat → Int64} {y_placeNames : Nat → Int32} {y_placeValues : Nat → Int64} {y_placeNexts : Nat → Int32} {y_procedureForms : Nat → Int64} {y_procedurePlaces : Nat → Int32} {y_continuations : Nat → Int32} {y_whats : Nat → Int32} {y_withs : Nat → Int64} {y_whereins : Nat → Int32} {y_soFars : Nat → Int32} {y_afters : Nat → Int32} {y_found : Nat → Int64} {y_foundNexts : Nat → Int32} {y_arguments : Nat → Int64} {y_prints : Nat → Int32} {y_itemKinds : Nat → Int32} {y_itemNumbers : Nat → Int32} {y_pile : Nat → Int64}
variable {T : Nat → Nat} {n : Nat}
theorem xs_append {post : SX → Prop} {x : Int32} (h : n + ap_c x ≤ 70) (hp : post (nI (n + ap_c x), x_pairCount, x_placeCount, x_procedureCount, x_continuationCount, x_frameCount, x_state, x_ending, x_form, x_environment, x_frame, x_value, x_applied, x_argumentCount, x_countedCount, x_consCount, x_entryCount, x_outputCount, x_itemCount, ap_a x_text n x, x_firsts, x_rests, x_placeNames, x_placeValues, x_placeOuters, x_procedureParts, x_procedurePlaces, x_continuationFrames, x_frameTasks, x_frameForms, x_frameValues, x_framePlaces, x_frameNexts, x_arguments, x_outputs, x_itemKinds, x_itemNumbers, x_openLists)) : wpX_append post (nI n, x_pairCount, x_placeCount, x_procedureCount, x_continuationCount, x_frameCount, x_state, x_ending, x_form, x_environment, x_frame, x_value, x_applied, x_argumentCount, x_countedCount, x_consCount, x_entryCount, x_outputCount, x_itemCount, x_text, x_firsts, x_rests, x_placeNames, x_placeValues, x_placeOuters, x_procedureParts, x_procedurePlaces, x_continuationFrames, x_frameTasks, x_frameForms, x_frameValues, x_framePlaces, x_frameNexts, x_arguments, x_outputs, x_itemKinds, x_itemNumbers, x_openLists) x := by
  unfold ap_c ap_a at hp
  unfold ap_c at h
  by_cases c : x = -1
  · rw [if_pos c, if_pos c] at hp
    exact br_t c hp
  · rw [if_neg c, if_neg c] at hp
    rw [if_neg c] at h
    have e : (nI n).toNatClampNeg = n := nI_clamp (by omega)
    exact br_f c (br_f (nI_ge (b := 70) (by omega) (by decide)) ⟨vp_in_nI (by omega) (by decide), nm_r (cl_I e) (nm_r (nI_1 n) hp)⟩)
theorem xs_tokens {post : Int32 → SX → Prop} {a b c d : Int32} (hn : n ≤ 70) (h0 : ¬ (ap_v a ∧ ap_v b ∧ ap_v c ∧ ap_v d) → post (-1000000001) (nI n, x_pairCount, x_placeCount, x_procedureCount, x_continuationCount, x_frameCount, x_state, x_ending, x_form, x_environment, x_frame, x_value, x_applied, x_argumentCount, x_countedCount, x_consCount, x_entryCount, x_outputCount, x_itemCount, x_text, x_firsts, x_rests, x_placeNames, x_placeValues, x_placeOuters, x_procedureParts, x_procedurePlaces, x_continuationFrames, x_frameTasks, x_frameForms, x_frameValues, x_framePlaces, x_frameNexts, x_arguments, x_outputs, x_itemKinds, x_itemNumbers, x_openLists))
    (h1 : (ap_v a ∧ ap_v b ∧ ap_v c ∧ ap_v d) → ¬ n + (ap_c a + ap_c b + ap_c c + ap_c d) ≤ 70 → post (-1000000002) (nI n, x_pairCount, x_placeCount, x_procedureCount, x_continuationCount, x_frameCount, x_state, x_ending, x_form, x_environment, x_frame, x_value, x_applied, x_argumentCount, x_countedCount, x_consCount, x_entryCount, x_outputCount, x_itemCount, x_text, x_firsts, x_rests, x_placeNames, x_placeValues, x_placeOuters, x_procedureParts, x_procedurePlaces, x_continuationFrames, x_frameTasks, x_frameForms, x_frameValues, x_framePlaces, x_frameNexts, x_arguments, x_outputs, x_itemKinds, x_itemNumbers, x_openLists))
    (h2 : (ap_v a ∧ ap_v b ∧ ap_v c ∧ ap_v d) → n + (ap_c a + ap_c b + ap_c c + ap_c d) ≤ 70 → post (nI (n + ap_c a + ap_c b + ap_c c + ap_c d)) (nI (n + ap_c a + ap_c b + ap_c c + ap_c d), x_pairCount, x_placeCount, x_procedureCount, x_continuationCount, x_frameCount, x_state, x_ending, x_form, x_environment, x_frame, x_value, x_applied, x_argumentCount, x_countedCount, x_consCount, x_entryCount, x_outputCount, x_itemCount, ap_a (ap_a (ap_a (ap_a x_text n a) (n + ap_c a) b) (n + ap_c a + ap_c b) c) (n + ap_c a + ap_c b + ap_c c) d, x_firsts, x_rests, x_placeNames, x_placeValues, x_placeOuters, x_procedureParts, x_procedurePlaces, x_continuationFrames, x_frameTasks, x_frameForms, x_frameValues, x_framePlaces, x_frameNexts, x_arguments, x_outputs, x_itemKinds, x_itemNumbers, x_openLists)) :
    wpX_tokens post (nI n, x_pairCount, x_placeCount, x_procedureCount, x_continuationCount, x_frameCount, x_state, x_ending, x_form, x_environment, x_frame, x_value, x_applied, x_argumentCount, x_countedCount, x_consCount, x_entryCount, x_outputCount, x_itemCount, x_text, x_firsts, x_rests, x_placeNames, x_placeValues, x_placeOuters, x_procedureParts, x_procedurePlaces, x_continuationFrames, x_frameTasks, x_frameForms, x_frameValues, x_framePlaces, x_frameNexts, x_arguments, x_outputs, x_itemKinds, x_itemNumbers, x_openLists) a b c d := by
  unfold wpX_tokens
  refine xs_tok a (fun va => br_f (by decide) (xs_tok b (fun vb => br_f (by decide) (xs_tok c (fun vc => br_f (by decide) (xs_tok d (fun vd => br_f (by decide) ?_) (fun z => br_t rfl (h0 (fun w => z w.2.2.2))))) (fun z => br_t rfl (h0 (fun w => z w.2.2.1))))) (fun z => br_t rfl (h0 (fun w => z w.2.1))))) (fun z => br_t rfl (h0 (fun w => z w.1)))
  have ca : ap_c a ≤ 1 := by unfold ap_c; split <;> omega
  have cb : ap_c b ≤ 1 := by unfold ap_c; split <;> omega
  have cc : ap_c c ≤ 1 := by unfold ap_c; split <;> omega
  have cd : ap_c d ≤ 1 := by unfold ap_c; split <;> omega
  refine ap_br (A := fun z => wX_tokens_42 post a b c d z (nI n) x_pairCount x_placeCount x_procedureCount x_continuationCount x_frameCount x_state x_ending x_form x_environment x_frame x_value x_applied x_argumentCount x_countedCount x_consCount x_entryCount x_outputCount x_itemCount x_text x_firsts x_rests x_placeNames x_placeValues x_placeOuters x_procedureParts x_procedurePlaces x_continuationFrames x_frameTasks x_frameForms x_frameValues x_framePlaces x_frameNexts x_arguments x_outputs x_itemKinds x_itemNumbers x_openLists) ?_
  refine ap_br (A := fun z => wX_tokens_52 post a b c d z (nI (ap_c a)) (nI n) x_pairCount x_placeCount x_procedureCount x_continuationCount x_frameCount x_state x_ending x_form x_environment x_frame x_value x_applied x_argumentCount x_countedCount x_consCount x_entryCount x_outputCount x_itemCount x_text x_firsts x_rests x_placeNames x_placeValues x_placeOuters x_procedureParts x_procedurePlaces x_continuationFrames x_frameTasks x_frameForms x_frameValues x_framePlaces x_frameNexts x_arguments x_outputs x_itemKinds x_itemNumbers x_openLists) ?_
  refine ap_br (A := fun z => wX_tokens_63 post a b c d z (nI (ap_c a) + nI (ap_c b)) (nI n) x_pairCount x_placeCount x_procedureCount x_continuationCount x_frameCount x_state x_ending x_form x_environment x_frame x_value x_applied x_argumentCount x_countedCount x_consCount x_entryCount x_outputCount x_itemCount x_text x_firsts x_rests x_placeNames x_placeValues x_placeOuters x_procedureParts x_procedurePlaces x_continuationFrames x_frameTasks x_frameForms x_frameValues x_framePlaces x_frameNexts x_arguments x_outputs x_itemKinds x_itemNumbers x_openLists) ?_
  refine ap_br (A := fun z => wX_tokens_75 post a b c d z (nI (ap_c a) + nI (ap_c b) + nI (ap_c c)) (nI n) x_pairCount x_placeCount x_procedureCount x_continuationCount x_frameCount x_state x_ending x_form x_environment x_frame x_value x_applied x_argumentCount x_countedCount x_consCount x_entryCount x_outputCount x_itemCount x_text x_firsts x_rests x_placeNames x_placeValues x_placeOuters x_procedureParts x_procedurePlaces x_continuationFrames x_frameTasks x_frameForms x_frameValues x_framePlaces x_frameNexts x_arguments x_outputs x_itemKinds x_itemNumbers x_openLists) ?_
  have e : nI (ap_c a) + nI (ap_c b) + nI (ap_c c) + nI (ap_c d) = nI (ap_c a + ap_c b + ap_c c + ap_c d) := by rw [nI_add, nI_add, nI_add]
  refine nm_r e ?_
  rw [nI_add]
  refine pk_le (n + (ap_c a + ap_c b + ap_c c + ap_c d)) 70 (fun h => ?_) (fun h => h1 ⟨va, vb, vc, vd⟩ (by omega))
  exact xs_append (by omega) (xs_append (by omega) (xs_append (by omega) (xs_append (by omega) (h2 ⟨va, vb, vc, vd⟩ h))))
def ap_s (a b c d : Int32) (i : Nat) : Int32 := if i = 0 then a else if i = 1 then b else if i = 2 then c else d
theorem ys_oneOf {post : Int32 → Prop} {a b c d : Int32} {i : Nat} (hi : i < 4) (h : post (ap_s a b c d i)) : wpY_oneOf post (y_size, y_pairs, y_open, y_formCount, y_places, y_procedures, y_continuationCount, y_things, y_foundCount, y_argumentCount, y_value, y_form, y_wherein, y_next, y_working, y_ending, y_counts, y_made, y_entered, y_printCount, y_itemCount, y_text, y_firsts, y_rests, y_heads, y_lasts, y_globals, y_placeNames, y_placeValues, y_placeNexts, y_procedureForms, y_procedurePlaces, y_continuations, y_whats, y_withs, y_whereins, y_soFars, y_afters, y_found, y_foundNexts, y_arguments, y_prints, y_itemKinds, y_itemNumbers, y_pile) (nI i) a b c d := by
  unfold ap_s at h
  refine pk_eq i 0 (fun z => ?_) (fun z => pk_eq i 1 (fun z1 => ?_) (fun z1 => pk_eq i 2 (fun z2 => ?_) (fun z2 => ?_)))
  · rw [if_pos z] at h; exact h
  · rw [if_neg z, if_pos z1] at h; exact h
  · rw [if_neg z, if_neg z1, if_pos z2] at h; exact h
  · rw [if_neg z, if_neg z1, if_neg z2] at h; exact h
theorem ys_isTok (x : Int32) {post : Int32 → Prop} (hx : x ≠ -1) (h1 : ap_v x → post 1) (h0 : ¬ ap_v x → post 0) : wpY_isToken post (y_size, y_pairs, y_open, y_formCount, y_places, y_procedures, y_continuationCount, y_things, y_foundCount, y_argumentCount, y_value, y_form, y_wherein, y_next, y_working, y_ending, y_counts, y_made, y_entered, y_printCount, y_itemCount, y_text, y_firsts, y_rests, y_heads, y_lasts, y_globals, y_placeNames, y_placeValues, y_placeNexts, y_procedureForms, y_procedurePlaces, y_continuations, y_whats, y_withs, y_whereins, y_soFars, y_afters, y_found, y_foundNexts, y_arguments, y_prints, y_itemKinds, y_itemNumbers, y_pile) x := by
  by_cases hneg : x < 0
  · obtain ⟨nv, hl⟩ := ap_v_neg hneg hx
    have l10 : x < 10 := Int32.lt_trans hneg (by decide)
    have l50 : x < 50 := Int32.lt_trans hneg (by decide)
    exact br_t hneg (br_t l10 (br_t l50 (h0 nv)))
  · obtain ⟨k, hk, rfl⟩ := nI_of hneg
    rw [ap_v_nI hk] at h1 h0
    unfold zv_tk at h1 h0
    exact br_f hneg (pk_le k 4 (fun _ => h1 (by omega)) (fun _ => pk_lt k 10 (fun _ => pk_lt k 50 (fun _ => h0 (by omega)) (fun _ => pk_lt 64 k (fun _ => h0 (by omega)) (fun _ => h1 (by omega)))) (fun _ => pk_le k 45 (fun _ => h1 (by omega)) (fun _ => pk_lt k 50 (fun _ => h0 (by omega)) (fun _ => pk_lt 64 k (fun _ => h0 (by omega)) (fun _ => h1 (by omega)))))))
theorem ys_43 {post : Int32 → SY → Prop} {J : Int32 → Int32 → Prop} {a b c d x : Int32} {k i : Nat} (h : J (nI (k + ap_c x)) (nI (i + 1))) : wY_tokens_43 post J a b c d (nI k) (nI i) x y_size y_pairs y_open y_formCount y_places y_procedures y_continuationCount y_things y_foundCount y_argumentCount y_value y_form y_wherein y_next y_working y_ending y_counts y_made y_entered y_printCount y_itemCount y_text y_firsts y_rests y_heads y_lasts y_globals y_placeNames y_placeValues y_placeNexts y_procedureForms y_procedurePlaces y_continuations y_whats y_withs y_whereins y_soFars y_afters y_found y_foundNexts y_arguments y_prints y_itemKinds y_itemNumbers y_pile := by
  unfold ap_c at h
  by_cases z : x = -1
  · rw [if_pos z] at h
    exact br_t z (nm_r (nI_1 i) h)
  · rw [if_neg z] at h
    exact br_f z (nm_r (nI_1 k) (nm_r (nI_1 i) h))
theorem ys_84 {post : Int32 → SY → Prop} {a b c d : Int32} {i f : Nat} (hi : i < 4) (hn : n + ap_c (ap_s a b c d i) ≤ 70) (h : wY_tokens_84 post a b c d y_pairs y_open y_formCount y_places y_procedures y_continuationCount y_things y_foundCount y_argumentCount y_value y_form y_wherein y_next y_working y_ending y_counts y_made y_entered y_printCount y_itemCount f (nI (i + 1)) (nI (n + ap_c (ap_s a b c d i))) (ap_a y_text n (ap_s a b c d i)) y_firsts y_rests y_heads y_lasts y_globals y_placeNames y_placeValues y_placeNexts y_procedureForms y_procedurePlaces y_continuations y_whats y_withs y_whereins y_soFars y_afters y_found y_foundNexts y_arguments y_prints y_itemKinds y_itemNumbers y_pile) :
    wY_tokens_84 post a b c d y_pairs y_open y_formCount y_places y_procedures y_continuationCount y_things y_foundCount y_argumentCount y_value y_form y_wherein y_next y_working y_ending y_counts y_made y_entered y_printCount y_itemCount (f + 1) (nI i) (nI n) y_text y_firsts y_rests y_heads y_lasts y_globals y_placeNames y_placeValues y_placeNexts y_procedureForms y_procedurePlaces y_continuations y_whats y_withs y_whereins y_soFars y_afters y_found y_foundNexts y_arguments y_prints y_itemKinds y_itemNumbers y_pile := by
  refine br_f (nI_ge (b := 4) hi (by decide)) (ys_oneOf hi ?_)
  unfold ap_c at h hn
  unfold ap_a at h
  by_cases z : ap_s a b c d i = -1
  · rw [if_pos z, if_pos z] at h
    exact br_t z (nm_r (nI_1 i) h)
  · rw [if_neg z, if_neg z] at h
    rw [if_neg z] at hn
    have e : (nI n).toNatClampNeg = n := nI_clamp (by omega)
    exact br_f z ⟨vp_in_nI (by omega) (by decide), nm_r (cl_I e) (nm_r (nI_1 n) (nm_r (nI_1 i) h))⟩
theorem ys_6 {post : Int32 → SY → Prop} {a b c d : Int32} {k i f : Nat} (hi : i < 4) (h0 : ¬ ap_v (ap_s a b c d i) → post (-1000000001) (y_size, y_pairs, y_open, y_formCount, y_places, y_procedures, y_continuationCount, y_things, y_foundCount, y_argumentCount, y_value, y_form, y_wherein, y_next, y_working, y_ending, y_counts, y_made, y_entered, y_printCount, y_itemCount, y_text, y_firsts, y_rests, y_heads, y_lasts, y_globals, y_placeNames, y_placeValues, y_placeNexts, y_procedureForms, y_procedurePlaces, y_continuations, y_whats, y_withs, y_whereins, y_soFars, y_afters, y_found, y_foundNexts, y_arguments, y_prints, y_itemKinds, y_itemNumbers, y_pile))
    (h : ap_v (ap_s a b c d i) → wY_tokens_6 post a b c d y_size y_pairs y_open y_formCount y_places y_procedures y_continuationCount y_things y_foundCount y_argumentCount y_value y_form y_wherein y_next y_working y_ending y_counts y_made y_entered y_printCount y_itemCount y_text y_firsts y_rests y_heads y_lasts y_globals y_placeNames y_placeValues y_placeNexts y_procedureForms y_procedurePlaces y_continuations y_whats y_withs y_whereins y_soFars y_afters y_found y_foundNexts y_arguments y_prints y_itemKinds y_itemNumbers y_pile f (nI (k + ap_c (ap_s a b c d i))) (nI (i + 1))) : wY_tokens_6 post a b c d y_size y_pairs y_open y_formCount y_places y_procedures y_continuationCount y_things y_foundCount y_argumentCount y_value y_form y_wherein y_next y_working y_ending y_counts y_made y_entered y_printCount y_itemCount y_text y_firsts y_rests y_heads y_lasts y_globals y_placeNames y_placeValues y_placeNexts y_procedureForms y_procedurePlaces y_continuations y_whats y_withs y_whereins y_soFars y_afters y_found y_foundNexts y_arguments y_prints y_itemKinds y_itemNumbers y_pile (f + 1) (nI k) (nI i) := by
  refine br_f (nI_ge (b := 4) hi (by decide)) (ys_oneOf hi ?_)
  by_cases z : ap_s a b c d i = -1
  · exact br_t z (ys_43 (h (Or.inl z)))
  · exact br_f z (ys_isTok _ z (fun v => br_f (by decide) (ys_43 (h v))) (fun v => br_t rfl (h0 v)))
theorem ys_tokens {post : Int32 → SY → Prop} {a b c d : Int32} (hn : n ≤ 70) (h0 : ¬ (ap_v a ∧ ap_v b ∧ ap_v c ∧ ap_v d) → post (-1000000001) (nI n, y_pairs, y_open, y_formCount, y_places, y_procedures, y_continuationCount, y_things, y_foundCount, y_argumentCount, y_value, y_form, y_wherein, y_next, y_working, y_ending, y_counts, y_made, y_entered, y_printCount, y_itemCount, y_text, y_firsts, y_rests, y_heads, y_lasts, y_globals, y_placeNames, y_placeValues, y_placeNexts, y_procedureForms, y_procedurePlaces, y_continuations, y_whats, y_withs, y_whereins, y_soFars, y_afters, y_found, y_foundNexts, y_arguments, y_prints, y_itemKinds, y_itemNumbers, y_pile))
    (h1 : (ap_v a ∧ ap_v b ∧ ap_v c ∧ ap_v d) → ¬ n + (ap_c a + ap_c b + ap_c c + ap_c d) ≤ 70 → post (-1000000002) (nI n, y_pairs, y_open, y_formCount, y_places, y_procedures, y_continuationCount, y_things, y_foundCount, y_argumentCount, y_value, y_form, y_wherein, y_next, y_working, y_ending, y_counts, y_made, y_entered, y_printCount, y_itemCount, y_text, y_firsts, y_rests, y_heads, y_lasts, y_globals, y_placeNames, y_placeValues, y_placeNexts, y_procedureForms, y_procedurePlaces, y_continuations, y_whats, y_withs, y_whereins, y_soFars, y_afters, y_found, y_foundNexts, y_arguments, y_prints, y_itemKinds, y_itemNumbers, y_pile))
    (h2 : (ap_v a ∧ ap_v b ∧ ap_v c ∧ ap_v d) → n + (ap_c a + ap_c b + ap_c c + ap_c d) ≤ 70 → post (nI (n + ap_c a + ap_c b + ap_c c + ap_c d)) (nI (n + ap_c a + ap_c b + ap_c c + ap_c d), y_pairs, y_open, y_formCount, y_places, y_procedures, y_continuationCount, y_things, y_foundCount, y_argumentCount, y_value, y_form, y_wherein, y_next, y_working, y_ending, y_counts, y_made, y_entered, y_printCount, y_itemCount, ap_a (ap_a (ap_a (ap_a y_text n a) (n + ap_c a) b) (n + ap_c a + ap_c b) c) (n + ap_c a + ap_c b + ap_c c) d, y_firsts, y_rests, y_heads, y_lasts, y_globals, y_placeNames, y_placeValues, y_placeNexts, y_procedureForms, y_procedurePlaces, y_continuations, y_whats, y_withs, y_whereins, y_soFars, y_afters, y_found, y_foundNexts, y_arguments, y_prints, y_itemKinds, y_itemNumbers, y_pile)) :
    wpY_tokens post (nI n, y_pairs, y_open, y_formCount, y_places, y_procedures, y_continuationCount, y_things, y_foundCount, y_argumentCount, y_value, y_form, y_wherein, y_next, y_working, y_ending, y_counts, y_made, y_entered, y_printCount, y_itemCount, y_text, y_firsts, y_rests, y_heads, y_lasts, y_globals, y_placeNames, y_placeValues, y_placeNexts, y_procedureForms, y_procedurePlaces, y_continuations, y_whats, y_withs, y_whereins, y_soFars, y_afters, y_found, y_foundNexts, y_arguments, y_prints, y_itemKinds, y_itemNumbers, y_pile) a b c d := by
  have ca : ap_c a ≤ 1 := by unfold ap_c; split <;> omega
  have cb : ap_c b ≤ 1 := by unfold ap_c; split <;> omega
  have cc : ap_c c ≤ 1 := by unfold ap_c; split <;> omega
  have cd : ap_c d ≤ 1 := by unfold ap_c; split <;> omega
  refine ⟨5, ys_6 (k := 0) (i := 0) (by decide) (fun z => h0 (fun w => z w.1)) (fun va => ys_6 (by decide) (fun z => h0 (fun w => z w.2.1)) (fun vb => ys_6 (by decide) (fun z => h0 (fun w => z w.2.2.1)) (fun vc => ys_6 (by decide) (fun z => h0 (fun w => z w.2.2.2)) (fun vd => ?_))))⟩
  refine br_t (by decide) ?_
  rw [nI_add]
  have hv : ap_v a ∧ ap_v b ∧ ap_v c ∧ ap_v d := ⟨va, vb, vc, vd⟩
  have es : 0 + ap_c (ap_s a b c d 0) + ap_c (ap_s a b c d (0 + 1)) + ap_c (ap_s a b c d (0 + 1 + 1)) + ap_c (ap_s a b c d (0 + 1 + 1 + 1)) = ap_c a + ap_c b + ap_c c + ap_c d := by
    show 0 + ap_c a + ap_c b + ap_c c + ap_c d = _
    omega
  rw [es]
  refine pk_le (n + (ap_c a + ap_c b + ap_c c + ap_c d)) 70 (fun h => ?_) (fun h => h1 hv (by omega))
  refine ⟨5, ys_84 (i := 0) (by decide) (by show n + ap_c a ≤ 70; omega) (ys_84 (by decide) (by show n + ap_c a + ap_c b ≤ 70; omega) (ys_84 (by decide) (by show n + ap_c a + ap_c b + ap_c c ≤ 70; omega) (ys_84 (by decide) (by show n + ap_c a + ap_c b + ap_c c + ap_c d ≤ 70; omega) ?_)))⟩
  exact br_t (by decide) (h2 hv h)
/-- one token more -/
theorem ap_T {x : Int32} {xt yt : Nat → Int32} (hv : ap_v x) (h : ∃ T : Nat → Nat, (∀ i, i < n → zv_tk (T i)) ∧ ∀ i, i < n → xt i = nI (T i) ∧ yt i = nI (T i)) :
    ∃ T : Nat → Nat, (∀ i, i < n + ap_c x → zv_tk (T i)) ∧ ∀ i, i < n + ap_c x → ap_a xt n x i = nI (T i) ∧ ap_a yt n x i = nI (T i) := by
  obtain ⟨T, h1, h2⟩ := h
  unfold ap_c ap_a
  by_cases z : x = -1
  · rw [if_pos z, if_pos z, if_pos z]
    exact ⟨T, h1, h2⟩
  · rw [if_neg z, if_neg z, if_neg z]
    obtain ⟨k, hk, rfl⟩ := hv.resolve_left z
    refine ⟨fun i => if i = n then k else T i, fun i hi => ?_, fun i hi => ?_⟩
    · by_cases y : i = n
      · dsimp only; rw [if_pos y]; exact hk
      · dsimp only; rw [if_neg y]; exact h1 i (by omega)
    · by_cases y : i = n
      · dsimp only; rw [if_pos y, y, pk_us, pk_us]; exact ⟨rfl, rfl⟩
      · dsimp only; rw [if_neg y, pk_un y, pk_un y]; exact h2 i (by omega)
theorem i_tokens {k : Nat} {a b c d : Int32} (I : i_Rel k (x_textLength, x_pairCount, x_placeCount, x_procedureCount, x_continuationCount, x_frameCount, x_state, x_ending, x_form, x_environment, x_frame, x_value, x_applied, x_argumentCount, x_countedCount, x_consCount, x_entryCount, x_outputCount, x_itemCount, x_text, x_firsts, x_rests, x_placeNames, x_placeValues, x_placeOuters, x_procedureParts, x_procedurePlaces, x_continuationFrames, x_frameTasks, x_frameForms, x_frameValues, x_framePlaces, x_frameNexts, x_arguments, x_outputs, x_itemKinds, x_itemNumbers, x_openLists) (y_size, y_pairs, y_open, y_formCount, y_places, y_procedures, y_continuationCount, y_things, y_foundCount, y_argumentCount, y_value, y_form, y_wherein, y_next, y_working, y_ending, y_counts, y_made, y_entered, y_printCount, y_itemCount, y_text, y_firsts, y_rests, y_heads, y_lasts, y_globals, y_placeNames, y_placeValues, y_placeNexts, y_procedureForms, y_procedurePlaces, y_continuations, y_whats, y_withs, y_whereins, y_soFars, y_afters, y_found, y_foundNexts, y_arguments, y_prints, y_itemKinds, y_itemNumbers, y_pile)) : wpX_tokens (fun r u' => wpY_tokens (fun r' v' => r' = r ∧ i_Rel (k + 5) u' v') (y_size, y_pairs, y_open, y_formCount, y_places, y_procedures, y_continuationCount, y_things, y_foundCount, y_argumentCount, y_value, y_form, y_wherein, y_next, y_working, y_ending, y_counts, y_made, y_entered, y_printCount, y_itemCount, y_text, y_firsts, y_rests, y_heads, y_lasts, y_globals, y_placeNames, y_placeValues, y_placeNexts, y_procedureForms, y_procedurePlaces, y_continuations, y_whats, y_withs, y_whereins, y_soFars, y_afters, y_found, y_foundNexts, y_arguments, y_prints, y_itemKinds, y_itemNumbers, y_pile) a b c d) (x_textLength, x_pairCount, x_placeCount, x_procedureCount, x_continuationCount, x_frameCount, x_state, x_ending, x_form, x_environment, x_frame, x_value, x_applied, x_argumentCount, x_countedCount, x_consCount, x_entryCount, x_outputCount, x_itemCount, x_text, x_firsts, x_rests, x_placeNames, x_placeValues, x_placeOuters, x_procedureParts, x_procedurePlaces, x_continuationFrames, x_frameTasks, x_frameForms, x_frameValues, x_framePlaces, x_frameNexts, x_arguments, x_outputs, x_itemKinds, x_itemNumbers, x_openLists) a b c d := by
  have I' := I
  obtain ⟨T, n, hn, hT, rfl, rfl, ht⟩ := I
  refine xs_tokens hn (fun z => ?_) (fun z1 z2 => ?_) (fun z1 z2 => ?_)
  · exact ys_tokens hn (fun _ => ⟨rfl, I'⟩) (fun y => absurd y z) (fun y => absurd y z)
  · exact ys_tokens hn (fun y => absurd z1 y) (fun _ _ => ⟨rfl, I'⟩) (fun _ y => absurd y z2)
  · refine ys_tokens hn (fun y => absurd z1 y) (fun _ y => absurd z2 y) (fun _ _ => ⟨rfl, ?_⟩)
    obtain ⟨T', g1, g2⟩ := ap_T z1.2.2.2 (ap_T z1.2.2.1 (ap_T z1.2.1 (ap_T z1.1 ⟨T, hT, ht⟩)))
    exact ⟨T', _, by omega, g1, rfl, rfl, g2⟩
theorem i_untoken {k : Nat} (I : i_Rel k (x_textLength, x_pairCount, x_placeCount, x_procedureCount, x_continuationCount, x_frameCount, x_state, x_ending, x_form, x_environment, x_frame, x_value, x_applied, x_argumentCount, x_countedCount, x_consCount, x_entryCount, x_outputCount, x_itemCount, x_text, x_firsts, x_rests, x_placeNames, x_placeValues, x_placeOuters, x_procedureParts, x_procedurePlaces, x_continuationFrames, x_frameTasks, x_frameForms, x_frameValues, x_framePlaces, x_frameNexts, x_arguments, x_outputs, x_itemKinds, x_itemNumbers, x_openLists) (y_size, y_pairs, y_open, y_formCount, y_places, y_procedures, y_continuationCount, y_things, y_foundCount, y_argumentCount, y_value, y_form, y_wherein, y_next, y_working, y_ending, y_counts, y_made, y_entered, y_printCount, y_itemCount, y_text, y_firsts, y_rests, y_heads, y_lasts, y_globals, y_placeNames, y_placeValues, y_placeNexts, y_procedureForms, y_procedurePlaces, y_continuations, y_whats, y_withs, y_whereins, y_soFars, y_afters, y_found, y_foundNexts, y_arguments, y_prints, y_itemKinds, y_itemNumbers, y_pile)) : wpX_untoken (fun r u' => wpY_untoken (fun r' v' => r' = r ∧ i_Rel (k + 5) u' v') (y_size, y_pairs, y_open, y_formCount, y_places, y_procedures, y_continuationCount, y_things, y_foundCount, y_argumentCount, y_value, y_form, y_wherein, y_next, y_working, y_ending, y_counts, y_made, y_entered, y_printCount, y_itemCount, y_text, y_firsts, y_rests, y_heads, y_lasts, y_globals, y_placeNames, y_placeValues, y_placeNexts, y_procedureForms, y_procedurePlaces, y_continuations, y_whats, y_withs, y_whereins, y_soFars, y_afters, y_found, y_foundNexts, y_arguments, y_prints, y_itemKinds, y_itemNumbers, y_pile)) (x_textLength, x_pairCount, x_placeCount, x_procedureCount, x_continuationCount, x_frameCount, x_state, x_ending, x_form, x_environment, x_frame, x_value, x_applied, x_argumentCount, x_countedCount, x_consCount, x_entryCount, x_outputCount, x_itemCount, x_text, x_firsts, x_rests, x_placeNames, x_placeValues, x_placeOuters, x_procedureParts, x_procedurePlaces, x_continuationFrames, x_frameTasks, x_frameForms, x_frameValues, x_framePlaces, x_frameNexts, x_arguments, x_outputs, x_itemKinds, x_itemNumbers, x_openLists) := by
  have I' := I
  obtain ⟨T, n, hn, hT, rfl, rfl, ht⟩ := I
  by_cases c : n = 0
  · subst c
    exact br_t rfl (br_t rfl ⟨rfl, I'⟩)
  · obtain ⟨m, rfl⟩ : ∃ m, n = m + 1 := ⟨n - 1, by omega⟩
    have h0 : ¬ nI (m + 1) = 0 := nI_ne0 (by omega) (by omega)
    have hi : vp_in (nI m) 70 := vp_in_nI (by omega) (by decide)
    have e : (nI m).toNatClampNeg = m := nI_clamp (by omega)
    refine br_f h0 (nm_r (nI_pred m) ⟨hi, br_f h0 (nm_r (nI_pred m) ⟨hi, ?_, T, m, by omega, fun i hi => hT i (by omega), rfl, rfl, fun i hi => ht i (by omega)⟩)⟩)
    rw [e, (ht m (by omega)).1, (ht m (by omega)).2]
theorem i_clear {k : Nat} (I : i_Rel k (x_textLength, x_pairCount, x_placeCount, x_procedureCount, x_continuationCount, x_frameCount, x_state, x_ending, x_form, x_environment, x_frame, x_value, x_applied, x_argumentCount, x_countedCount, x_consCount, x_entryCount, x_outputCount, x_itemCount, x_text, x_firsts, x_rests, x_placeNames, x_placeValues, x_placeOuters, x_procedureParts, x_procedurePlaces, x_continuationFrames, x_frameTasks, x_frameForms, x_frameValues, x_framePlaces, x_frameNexts, x_arguments, x_outputs, x_itemKinds, x_itemNumbers, x_openLists) (y_size, y_pairs, y_open, y_formCount, y_places, y_procedures, y_continuationCount, y_things, y_foundCount, y_argumentCount, y_value, y_form, y_wherein, y_next, y_working, y_ending, y_counts, y_made, y_entered, y_printCount, y_itemCount, y_text, y_firsts, y_rests, y_heads, y_lasts, y_globals, y_placeNames, y_placeValues, y_placeNexts, y_procedureForms, y_procedurePlaces, y_continuations, y_whats, y_withs, y_whereins, y_soFars, y_afters, y_found, y_foundNexts, y_arguments, y_prints, y_itemKinds, y_itemNumbers, y_pile)) : wpX_clear (fun u' => wpY_clear (fun v' => i_Rel (k + 5) u' v') (y_size, y_pairs, y_open, y_formCount, y_places, y_procedures, y_continuationCount, y_things, y_foundCount, y_argumentCount, y_value, y_form, y_wherein, y_next, y_working, y_ending, y_counts, y_made, y_entered, y_printCount, y_itemCount, y_text, y_firsts, y_rests, y_heads, y_lasts, y_globals, y_placeNames, y_placeValues, y_placeNexts, y_procedureForms, y_procedurePlaces, y_continuations, y_whats, y_withs, y_whereins, y_soFars, y_afters, y_found, y_foundNexts, y_arguments, y_prints, y_itemKinds, y_itemNumbers, y_pile)) (x_textLength, x_pairCount, x_placeCount, x_procedureCount, x_continuationCount, x_frameCount, x_state, x_ending, x_form, x_environment, x_frame, x_value, x_applied, x_argumentCount, x_countedCount, x_consCount, x_entryCount, x_outputCount, x_itemCount, x_text, x_firsts, x_rests, x_placeNames, x_placeValues, x_placeOuters, x_procedureParts, x_procedurePlaces, x_continuationFrames, x_frameTasks, x_frameForms, x_frameValues, x_framePlaces, x_frameNexts, x_arguments, x_outputs, x_itemKinds, x_itemNumbers, x_openLists) :=
  ⟨fun _ => 0, 0, by omega, fun i hi => by omega, rfl, rfl, fun i hi => by omega⟩
theorem pz_ww_le : pz_ww T n ≤ n := by
  induction n with
  | zero => exact Nat.le_refl _
  | succ n ih => rw [pz_ww]; split <;> omega
theorem pz_ww_n (h : n ≤ 70) : ¬ nI (pz_ww T n) = -1000000003 := by
  have := pz_ww_le (T := T) (n := n)
  intro z
  exact nI_pos (n := pz_ww T n) (by omega) (by rw [z]; decide)
theorem i_reads {k : Nat} (I : i_Rel k (x_textLength, x_pairCount, x_placeCount, x_procedureCount, x_continuationCount, x_frameCount, x_state, x_ending, x_form, x_environment, x_frame, x_value, x_applied, x_argumentCount, x_countedCount, x_consCount, x_entryCount, x_outputCount, x_itemCount, x_text, x_firsts, x_rests, x_placeNames, x_placeValues, x_placeOuters, x_procedureParts, x_procedurePlaces, x_continuationFrames, x_frameTasks, x_frameForms, x_frameValues, x_framePlaces, x_frameNexts, x_arguments, x_outputs, x_itemKinds, x_itemNumbers, x_openLists) (y_size, y_pairs, y_open, y_formCount, y_places, y_procedures, y_continuationCount, y_things, y_foundCount, y_argumentCount, y_value, y_form, y_wherein, y_next, y_working, y_ending, y_counts, y_made, y_entered, y_printCount, y_itemCount, y_text, y_firsts, y_rests, y_heads, y_lasts, y_globals, y_placeNames, y_placeValues, y_placeNexts, y_procedureForms, y_procedurePlaces, y_continuations, y_whats, y_withs, y_whereins, y_soFars, y_afters, y_found, y_foundNexts, y_arguments, y_prints, y_itemKinds, y_itemNumbers, y_pile)) : wpX_reads (fun r => wpY_reads (fun r' v' => r' = r ∧ i_Rel (k + 5) (x_textLength, x_pairCount, x_placeCount, x_procedureCount, x_continuationCount, x_frameCount, x_state, x_ending, x_form, x_environment, x_frame, x_value, x_applied, x_argumentCount, x_countedCount, x_consCount, x_entryCount, x_outputCount, x_itemCount, x_text, x_firsts, x_rests, x_placeNames, x_placeValues, x_placeOuters, x_procedureParts, x_procedurePlaces, x_continuationFrames, x_frameTasks, x_frameForms, x_frameValues, x_framePlaces, x_frameNexts, x_arguments, x_outputs, x_itemKinds, x_itemNumbers, x_openLists) v') (y_size, y_pairs, y_open, y_formCount, y_places, y_procedures, y_continuationCount, y_things, y_foundCount, y_argumentCount, y_value, y_form, y_wherein, y_next, y_working, y_ending, y_counts, y_made, y_entered, y_printCount, y_itemCount, y_text, y_firsts, y_rests, y_heads, y_lasts, y_globals, y_placeNames, y_placeValues, y_placeNexts, y_procedureForms, y_procedurePlaces, y_continuations, y_whats, y_withs, y_whereins, y_soFars, y_afters, y_found, y_foundNexts, y_arguments, y_prints, y_itemKinds, y_itemNumbers, y_pile)) (x_textLength, x_pairCount, x_placeCount, x_procedureCount, x_continuationCount, x_frameCount, x_state, x_ending, x_form, x_environment, x_frame, x_value, x_applied, x_argumentCount, x_countedCount, x_consCount, x_entryCount, x_outputCount, x_itemCount, x_text, x_firsts, x_rests, x_placeNames, x_placeValues, x_placeOuters, x_procedureParts, x_procedurePlaces, x_continuationFrames, x_frameTasks, x_frameForms, x_frameValues, x_framePlaces, x_frameNexts, x_arguments, x_outputs, x_itemKinds, x_itemNumbers, x_openLists) := by
  obtain ⟨T, n, hn, hT, rfl, rfl, ht⟩ := I
  have hX : ∀ i, i < n → zv_tk (T i) ∧ x_text i = nI (T i) := fun i hi => ⟨hT i hi, (ht i hi).1⟩
  have hY : ∀ i, i < n → zv_tk (T i) ∧ y_text i = nI (T i) := fun i hi => ⟨hT i hi, (ht i hi).2⟩
  unfold wpX_reads wpY_reads
  refine xs_countForms hn hX (fun hR => br_f (pz_ww_n hn) ?_) (fun hR => br_t rfl ?_)
  · exact ys_read hn hY (fun _ F R H L _ _ _ => ⟨rfl, rfl, T, n, hn, hT, rfl, rfl, ht⟩) (fun z => absurd hR z)
  · exact ys_read hn hY (fun z => absurd z hR) (fun _ a b c F R H L => ⟨rfl, rfl, T, n, hn, hT, rfl, rfl, ht⟩)
theorem i_forms {k : Nat} (I : i_Rel k (x_textLength, x_pairCount, x_placeCount, x_procedureCount, x_continuationCount, x_frameCount, x_state, x_ending, x_form, x_environment, x_frame, x_value, x_applied, x_argumentCount, x_countedCount, x_consCount, x_entryCount, x_outputCount, x_itemCount, x_text, x_firsts, x_rests, x_placeNames, x_placeValues, x_placeOuters, x_procedureParts, x_procedurePlaces, x_continuationFrames, x_frameTasks, x_frameForms, x_frameValues, x_framePlaces, x_frameNexts, x_arguments, x_outputs, x_itemKinds, x_itemNumbers, x_openLists) (y_size, y_pairs, y_open, y_formCount, y_places, y_procedures, y_continuationCount, y_things, y_foundCount, y_argumentCount, y_value, y_form, y_wherein, y_next, y_working, y_ending, y_counts, y_made, y_entered, y_printCount, y_itemCount, y_text, y_firsts, y_rests, y_heads, y_lasts, y_globals, y_placeNames, y_placeValues, y_placeNexts, y_procedureForms, y_procedurePlaces, y_continuations, y_whats, y_withs, y_whereins, y_soFars, y_afters, y_found, y_foundNexts, y_arguments, y_prints, y_itemKinds, y_itemNumbers, y_pile)) : wpX_forms (fun r => wpY_forms (fun r' v' => r' = r ∧ i_Rel (k + 5) (x_textLength, x_pairCount, x_placeCount, x_procedureCount, x_continuationCount, x_frameCount, x_state, x_ending, x_form, x_environment, x_frame, x_value, x_applied, x_argumentCount, x_countedCount, x_consCount, x_entryCount, x_outputCount, x_itemCount, x_text, x_firsts, x_rests, x_placeNames, x_placeValues, x_placeOuters, x_procedureParts, x_procedurePlaces, x_continuationFrames, x_frameTasks, x_frameForms, x_frameValues, x_framePlaces, x_frameNexts, x_arguments, x_outputs, x_itemKinds, x_itemNumbers, x_openLists) v') (y_size, y_pairs, y_open, y_formCount, y_places, y_procedures, y_continuationCount, y_things, y_foundCount, y_argumentCount, y_value, y_form, y_wherein, y_next, y_working, y_ending, y_counts, y_made, y_entered, y_printCount, y_itemCount, y_text, y_firsts, y_rests, y_heads, y_lasts, y_globals, y_placeNames, y_placeValues, y_placeNexts, y_procedureForms, y_procedurePlaces, y_continuations, y_whats, y_withs, y_whereins, y_soFars, y_afters, y_found, y_foundNexts, y_arguments, y_prints, y_itemKinds, y_itemNumbers, y_pile)) (x_textLength, x_pairCount, x_placeCount, x_procedureCount, x_continuationCount, x_frameCount, x_state, x_ending, x_form, x_environment, x_frame, x_value, x_applied, x_argumentCount, x_countedCount, x_consCount, x_entryCount, x_outputCount, x_itemCount, x_text, x_firsts, x_rests, x_placeNames, x_placeValues, x_placeOuters, x_procedureParts, x_procedurePlaces, x_continuationFrames, x_frameTasks, x_frameForms, x_frameValues, x_framePlaces, x_frameNexts, x_arguments, x_outputs, x_itemKinds, x_itemNumbers, x_openLists) := by
  obtain ⟨T, n, hn, hT, rfl, rfl, ht⟩ := I
  have hX : ∀ i, i < n → zv_tk (T i) ∧ x_text i = nI (T i) := fun i hi => ⟨hT i hi, (ht i hi).1⟩
  have hY : ∀ i, i < n → zv_tk (T i) ∧ y_text i = nI (T i) := fun i hi => ⟨hT i hi, (ht i hi).2⟩
  unfold wpX_forms wpY_forms
  refine xs_countForms hn hX (fun hR => ?_) (fun hR => ?_)
  · exact ys_read hn hY (fun _ F R H L _ _ _ => br_f (by decide) ⟨rfl, T, n, hn, hT, rfl, rfl, ht⟩) (fun z => absurd hR z)
  · exact ys_read hn hY (fun z => absurd z hR) (fun _ a b c F R H L => br_t rfl ⟨rfl, T, n, hn, hT, rfl, rfl, ht⟩)
end
theorem i_vc_tokens {k : Nat} {u : SX} {v : SY} (I : i_Rel k u v) (hk : k + 5 ≤ 2560) (v1 : Int32) (v2 : Int32) (v3 : Int32) (v4 : Int32) : wpX_tokens (fun r u' => wpY_tokens (fun r' v' => r' = r ∧ i_Rel (k + 5) u' v') v v1 v2 v3 v4) u v1 v2 v3 v4 := by
  obtain ⟨x_textLength, x_pairCount, x_placeCount, x_procedureCount, x_continuationCount, x_frameCount, x_state, x_ending, x_form, x_environment, x_frame, x_value, x_applied, x_argumentCount, x_countedCount, x_consCount, x_entryCount, x_outputCount, x_itemCount, x_text, x_firsts, x_rests, x_placeNames, x_placeValues, x_placeOuters, x_procedureParts, x_procedurePlaces, x_continuationFrames, x_frameTasks, x_frameForms, x_frameValues, x_framePlaces, x_frameNexts, x_arguments, x_outputs, x_itemKinds, x_itemNumbers, x_openLists⟩ := u
  obtain ⟨y_size, y_pairs, y_open, y_formCount, y_places, y_procedures, y_continuationCount, y_things, y_foundCount, y_argumentCount, y_value, y_form, y_wherein, y_next, y_working, y_ending, y_counts, y_made, y_entered, y_printCount, y_itemCount, y_text, y_firsts, y_rests, y_heads, y_lasts, y_globals, y_placeNames, y_placeValues, y_placeNexts, y_procedureForms, y_procedurePlaces, y_continuations, y_whats, y_withs, y_whereins, y_soFars, y_afters, y_found, y_foundNexts, y_arguments, y_prints, y_itemKinds, y_itemNumbers, y_pile⟩ := v
  exact i_tokens I
theorem i_vc_untoken {k : Nat} {u : SX} {v : SY} (I : i_Rel k u v) (hk : k + 5 ≤ 2560) : wpX_untoken (fun r u' => wpY_untoken (fun r' v' => r' = r ∧ i_Rel (k + 5) u' v') v) u := by
  obtain ⟨x_textLength, x_pairCount, x_placeCount, x_procedureCount, x_continuationCount, x_frameCount, x_state, x_ending, x_form, x_environment, x_frame, x_value, x_applied, x_argumentCount, x_countedCount, x_consCount, x_entryCount, x_outputCount, x_itemCount, x_text, x_firsts, x_rests, x_placeNames, x_placeValues, x_placeOuters, x_procedureParts, x_procedurePlaces, x_continuationFrames, x_frameTasks, x_frameForms, x_frameValues, x_framePlaces, x_frameNexts, x_arguments, x_outputs, x_itemKinds, x_itemNumbers, x_openLists⟩ := u
  obtain ⟨y_size, y_pairs, y_open, y_formCount, y_places, y_procedures, y_continuationCount, y_things, y_foundCount, y_argumentCount, y_value, y_form, y_wherein, y_next, y_working, y_ending, y_counts, y_made, y_entered, y_printCount, y_itemCount, y_text, y_firsts, y_rests, y_heads, y_lasts, y_globals, y_placeNames, y_placeValues, y_placeNexts, y_procedureForms, y_procedurePlaces, y_continuations, y_whats, y_withs, y_whereins, y_soFars, y_afters, y_found, y_foundNexts, y_arguments, y_prints, y_itemKinds, y_itemNumbers, y_pile⟩ := v
  exact i_untoken I
theorem i_vc_clear {k : Nat} {u : SX} {v : SY} (I : i_Rel k u v) (hk : k + 5 ≤ 2560) : wpX_clear (fun u' => wpY_clear (fun v' => i_Rel (k + 5) u' v') v) u := by
  obtain ⟨x_textLength, x_pairCount, x_placeCount, x_procedureCount, x_continuationCount, x_frameCount, x_state, x_ending, x_form, x_environment, x_frame, x_value, x_applied, x_argumentCount, x_countedCount, x_consCount, x_entryCount, x_outputCount, x_itemCount, x_text, x_firsts, x_rests, x_placeNames, x_placeValues, x_placeOuters, x_procedureParts, x_procedurePlaces, x_continuationFrames, x_frameTasks, x_frameForms, x_frameValues, x_framePlaces, x_frameNexts, x_arguments, x_outputs, x_itemKinds, x_itemNumbers, x_openLists⟩ := u
  obtain ⟨y_size, y_pairs, y_open, y_formCount, y_places, y_procedures, y_continuationCount, y_things, y_foundCount, y_argumentCount, y_value, y_form, y_wherein, y_next, y_working, y_ending, y_counts, y_made, y_entered, y_printCount, y_itemCount, y_text, y_firsts, y_rests, y_heads, y_lasts, y_globals, y_placeNames, y_placeValues, y_placeNexts, y_procedureForms, y_procedurePlaces, y_continuations, y_whats, y_withs, y_whereins, y_soFars, y_afters, y_found, y_foundNexts, y_arguments, y_prints, y_itemKinds, y_itemNumbers, y_pile⟩ := v
  exact i_clear I
theorem i_vc_reads {k : Nat} {u : SX} {v : SY} (I : i_Rel k u v) (hk : k + 5 ≤ 2560) : wpX_reads (fun r => wpY_reads (fun r' v' => r' = r ∧ i_Rel (k + 5) u v') v) u := by
  obtain ⟨x_textLength, x_pairCount, x_placeCount, x_procedureCount, x_continuationCount, x_frameCount, x_state, x_ending, x_form, x_environment, x_frame, x_value, x_applied, x_argumentCount, x_countedCount, x_consCount, x_entryCount, x_outputCount, x_itemCount, x_text, x_firsts, x_rests, x_placeNames, x_placeValues, x_placeOuters, x_procedureParts, x_procedurePlaces, x_continuationFrames, x_frameTasks, x_frameForms, x_frameValues, x_framePlaces, x_frameNexts, x_arguments, x_outputs, x_itemKinds, x_itemNumbers, x_openLists⟩ := u
  obtain ⟨y_size, y_pairs, y_open, y_formCount, y_places, y_procedures, y_continuationCount, y_things, y_foundCount, y_argumentCount, y_value, y_form, y_wherein, y_next, y_working, y_ending, y_counts, y_made, y_entered, y_printCount, y_itemCount, y_text, y_firsts, y_rests, y_heads, y_lasts, y_globals, y_placeNames, y_placeValues, y_placeNexts, y_procedureForms, y_procedurePlaces, y_continuations, y_whats, y_withs, y_whereins, y_soFars, y_afters, y_found, y_foundNexts, y_arguments, y_prints, y_itemKinds, y_itemNumbers, y_pile⟩ := v
  exact i_reads I
theorem i_vc_forms {k : Nat} {u : SX} {v : SY} (I : i_Rel k u v) (hk : k + 5 ≤ 2560) : wpX_forms (fun r => wpY_forms (fun r' v' => r' = r ∧ i_Rel (k + 5) u v') v) u := by
  obtain ⟨x_textLength, x_pairCount, x_placeCount, x_procedureCount, x_continuationCount, x_frameCount, x_state, x_ending, x_form, x_environment, x_frame, x_value, x_applied, x_argumentCount, x_countedCount, x_consCount, x_entryCount, x_outputCount, x_itemCount, x_text, x_firsts, x_rests, x_placeNames, x_placeValues, x_placeOuters, x_procedureParts, x_procedurePlaces, x_continuationFrames, x_frameTasks, x_frameForms, x_frameValues, x_framePlaces, x_frameNexts, x_arguments, x_outputs, x_itemKinds, x_itemNumbers, x_openLists⟩ := u
  obtain ⟨y_size, y_pairs, y_open, y_formCount, y_places, y_procedures, y_continuationCount, y_things, y_foundCount, y_argumentCount, y_value, y_form, y_wherein, y_next, y_working, y_ending, y_counts, y_made, y_entered, y_printCount, y_itemCount, y_text, y_firsts, y_rests, y_heads, y_lasts, y_globals, y_placeNames, y_placeValues, y_placeNexts, y_procedureForms, y_procedurePlaces, y_continuations, y_whats, y_withs, y_whereins, y_soFars, y_afters, y_found, y_foundNexts, y_arguments, y_prints, y_itemKinds, y_itemNumbers, y_pile⟩ := v
  exact i_forms I
