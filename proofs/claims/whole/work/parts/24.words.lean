/-! words -/
def sh_OK (T : Nat → Nat) (w k p : Nat) : Prop := (w = 41 ∧ (k = 2 ∨ k = 3)) ∨ (w = 42 ∧ 2 ≤ k ∧ T p = 0 ∧ na_W T 4 (p + 1) 0) ∨ ((w = 43 ∨ w = 44) ∧ k = 2 ∧ 30 ≤ T p ∧ T p ≤ 39) ∨ (w = 45 ∧ 1 ≤ k)
def sh_z (T : Nat → Nat) (k p : Nat) : Int32 := if k = 2 ∧ 30 ≤ T p ∧ T p ≤ 39 then 1 else 0
section
variable {x_textLength : Int32} {x_pairCount : Int32} {x_placeCount : Int32} {x_procedureCount : Int32} {x_continuationCount : Int32} {x_frameCount : Int32} {x_state : Int32} {x_ending : Int32} {x_form : Int64} {x_environment : Int32} {x_frame : Int32} {x_value : Int64} {x_applied : Int64} {x_argumentCount : Int32} {x_countedCount : Int32} {x_consCount : Int32} {x_entryCount : Int32} {x_outputCount : Int32} {x_itemCount : Int32} {x_text : Nat → Int32} {x_firsts : Nat → Int64} {x_rests : Nat → Int64} {x_placeNames : Nat → Int32} {x_placeValues : Nat → Int64} {x_placeOuters : Nat → Int32} {x_procedureParts : Nat → Int64} {x_procedurePlaces : Nat → Int32} {x_continuationFrames : Nat → Int32} {x_frameTasks : Nat → Int32} {x_frameForms : Nat → Int64} {x_frameValues : Nat → Int64} {x_framePlaces : Nat → Int32} {x_frameNexts : Nat → Int32} {x_arguments : Nat → Int64} {x_outputs : Nat → Int32} {x_itemKinds : Nat → Int32} {x_itemNumbers : Nat → Int32} {x_openLists : Nat → Int64}
variable {y_size : Int32} {y_pairs : Int32} {y_open : Int32} {y_formCount : Int32} {y_places : Int32} {y_procedures : Int32} {y_continuationCount : Int32} {y_things : Int32} {y_foundCount : Int32} {y_argumentCount : Int32} {y_value : Int64} {y_form : Int64} {y_wherein : Int32} {y_next : Int32} {y_working : Int32} {y_ending : Int32} {y_counts : Int32} {y_made : Int32} {y_entered : Int32} {y_printCount : Int32} {y_itemCount : Int32} {y_text : Nat → Int32} {y_firsts : Nat → Int64} {y_rests : Nat → Int64} {y_heads : Nat → Int32} {y_lasts : Nat → Int32} {y_globals : Nat → Int64} {y_placeNames : Nat → Int32} {y_placeValues : Nat → Int64} {y_placeNexts : Nat → Int32} {y_procedureForms : Nat → Int64} {y_procedurePlaces : Nat → Int32} {y_continuations : Nat → Int32} {y_whats : Nat → Int32} {y_withs : Nat → Int64} {y_whereins : Nat → Int32} {y_soFars : Nat → Int32} {y_afters : Nat → Int32} {y_found : Nat → Int64} {y_foundNexts : Nat → Int32} {y_arguments : Nat → Int64} {y_prints : Nat → Int32} {y_itemKinds : Nat → Int32} {y_itemNumbers : Nat → Int32} {y_pile : Nat → Int64}
variable {T : Nat → Nat} {n px py pl np nc nf fo co cn et pc : Nat} {M : Nat → Nat → Prop} {G : Nat → Nat}
theorem xs_shape {post : Int32 → Prop} {w k p : Nat} (hR : pz_Rd T n) (hn : n ≤ 70) (hT : ∀ i, i < n → zv_tk (T i)) (hpx : px ≤ 1400) (hc : cd_OK T n y_firsts y_rests x_firsts x_rests) (hb : ∀ r j, pz_Nd T n r j → pz_AY T n r j < py ∧ pz_AX T n r j < px)
    (hk : pz_Ln T n k p) (hl : ls_P T n p) (h1 : 41 ≤ w) (h2 : w ≤ 45) (g1 : sh_OK T w k p → post 1) (g0 : ¬ sh_OK T w k p → post 0) : wpX_hasShape post (x_textLength, nI px, x_placeCount, x_procedureCount, x_continuationCount, x_frameCount, x_state, x_ending, x_form, x_environment, x_frame, x_value, x_applied, x_argumentCount, x_countedCount, x_consCount, x_entryCount, x_outputCount, x_itemCount, x_text, x_firsts, x_rests, x_placeNames, x_placeValues, x_placeOuters, x_procedureParts, x_procedurePlaces, x_continuationFrames, x_frameTasks, x_frameForms, x_frameValues, x_framePlaces, x_frameNexts, x_arguments, x_outputs, x_itemKinds, x_itemNumbers, x_openLists) (nI w) (cd_xl T n p) := by
  have hkb : k < 2 ^ 31 := by
    obtain ⟨k', a1, a2⟩ := pz_Ln_ex hR _ p rfl hl.1
    have := pz_Ln_u _ _ _ hk a1
    omega
  have hcell : 1 ≤ k → p < n ∧ T p ≠ 1 := by
    intro z
    cases k with
    | zero => omega
    | succ k => exact ⟨hk.1, hk.2.1⟩
  unfold wpX_hasShape
  refine xs_len_ch hpx (cd_chX hR hc hb k p hk hl.2.2 (pz_CL_nD0 hl.2.1)) ?_
  have hw : w = 41 ∨ w = 42 ∨ (w = 43 ∨ w = 44) ∨ w = 45 := by omega
  rcases hw with rfl | rfl | hw | rfl
  · refine br_f (by decide) (br_f (by decide) (br_f (by decide) (br_t rfl (pk_eq k 2 (fun z => g1 (Or.inl ⟨rfl, Or.inl z⟩)) (fun z => pk_eq k 3 (fun y => g1 (Or.inl ⟨rfl, Or.inr y⟩)) (fun y => g0 ?_))))))
    unfold sh_OK; omega
  · refine br_f (by decide) (br_f (by decide) (br_f (by decide) (br_f (by decide) (br_t rfl (pk_lt k 2 (fun z => g0 ?_) (fun z => ?_))))))
    · unfold sh_OK; omega
    · obtain ⟨p1, p2⟩ := hcell (by omega)
      obtain ⟨e1, e2, e3, e4, e5, e6⟩ := cd_cell hc hb p1 p2 hl.2.2 (pz_CL_nD0 hl.2.1)
      rw [cd_xl_p p1 p2]
      refine ⟨zv_in (by omega) (by decide), ?_⟩
      rw [zv_cl (by omega), e5]
      exact xs_areNames hR hn hT hpx hc hb p1 p2 (ls_CF hl) (fun y => br_f (by decide) (g1 (Or.inr (Or.inl ⟨rfl, z, y.1, y.2⟩)))) (fun y => br_t rfl (g0 (fun v => by
        rcases v with v | v | v | v
        · omega
        · exact y v.2.2
        · omega
        · omega)))
  · have h100 : wX_hasShape_100 post (cd_xl T n p) (nI k) x_textLength (nI px) x_placeCount x_procedureCount x_continuationCount x_frameCount x_state x_ending x_form x_environment x_frame x_value x_applied x_argumentCount x_countedCount x_consCount x_entryCount x_outputCount x_itemCount x_text x_firsts x_rests x_placeNames x_placeValues x_placeOuters x_procedureParts x_procedurePlaces x_continuationFrames x_frameTasks x_frameForms x_frameValues x_framePlaces x_frameNexts x_arguments x_outputs x_itemKinds x_itemNumbers x_openLists := by
      refine pk_eq k 2 (fun z => ?_) (fun z => g0 (by unfold sh_OK; omega))
      obtain ⟨p1, p2⟩ := hcell (by omega)
      obtain ⟨e1, e2, e3, e4, e5, e6⟩ := cd_cell hc hb p1 p2 hl.2.2 (pz_CL_nD0 hl.2.1)
      have hin : vp_in (zv_c 2 (pz_AX T n 0 p)).toInt32 1400 := zv_in (by omega) (by decide)
      rw [cd_xl_p p1 p2, zv_cl (by omega), e5]
      refine ⟨hin, ?_⟩
      by_cases cn : 30 ≤ T p ∧ T p ≤ 39
      · have hx : cd_xv T n p = zv_c 1 (T p) := by
          rw [cd_xv_a (by omega)]
          unfold zv_xA
          rw [if_neg (by omega), if_neg (by omega)]
        rw [hx, zk_30, zk_39]
        exact br_f (fun z => by have := (zv_lt (by decide) (by omega) (by decide) (by decide)).mp z; omega) ⟨hin, br_f (fun z => by have := (zv_lt (by decide) (by decide) (by decide) (by omega)).mp z; omega) (g1 (Or.inr (Or.inr (Or.inl ⟨hw, z, cn.1, cn.2⟩))))⟩
      · have hno : post 0 := g0 (by unfold sh_OK; omega)
        obtain ⟨s', l', a1, a2, a3, a4⟩ := nv_x hR hn hT hpx hb p1 p2 hl.2.2 cn
        rw [a3, zk_30, zk_39]
        by_cases y : zv_c s' l' < zv_c 1 30
        · exact br_t y hno
        · refine br_f y ⟨hin, br_t ?_ hno⟩
          rw [zv_lt a1 a2 (by decide) (by decide)] at y
          rw [zv_lt (by decide) (by decide) a1 a2]
          omega
    rcases hw with rfl | rfl
    · exact br_f (by decide) (br_f (by decide) (br_f (by decide) (br_f (by decide) (br_f (by decide) (br_t rfl h100)))))
    · exact br_f (by decide) (br_f (by decide) (br_f (by decide) (br_f (by decide) (br_f (by decide) (br_f (by decide) (br_t rfl h100))))))
  · refine br_f (by decide) (br_t (by decide) (pk_lt k 1 (fun z => g0 ?_) (fun z => g1 (Or.inr (Or.inr (Or.inr ⟨rfl, z⟩))))))
    unfold sh_OK; omega
theorem ys_sp {post : SY → Prop} {w k p : Nat} (hR : pz_Rd T n) (hn : n ≤ 70) (hT : ∀ i, i < n → zv_tk (T i)) (hpy : py ≤ 900) (hc : cd_OK T n y_firsts y_rests x_firsts x_rests) (hb : ∀ r j, pz_Nd T n r j → pz_AY T n r j < py ∧ pz_AX T n r j < px)
    (hk : pz_Ln T n k p) (hl : ls_P T n p) (h : wY_workSpecial_30 post (nI w) (cd_yl T n p) (nI k) (sh_z T k p) y_size y_pairs y_open y_formCount y_places y_procedures y_continuationCount y_things y_foundCount y_argumentCount y_value y_form y_wherein y_next y_working y_ending y_counts y_made y_entered y_printCount y_itemCount y_text y_firsts y_rests y_heads y_lasts y_globals y_placeNames y_placeValues y_placeNexts y_procedureForms y_procedurePlaces y_continuations y_whats y_withs y_whereins y_soFars y_afters y_found y_foundNexts y_arguments y_prints y_itemKinds y_itemNumbers y_pile) : wpY_workSpecial post (y_size, y_pairs, y_open, y_formCount, y_places, y_procedures, y_continuationCount, y_things, y_foundCount, y_argumentCount, y_value, y_form, y_wherein, y_next, y_working, y_ending, y_counts, y_made, y_entered, y_printCount, y_itemCount, y_text, y_firsts, y_rests, y_heads, y_lasts, y_globals, y_placeNames, y_placeValues, y_placeNexts, y_procedureForms, y_procedurePlaces, y_continuations, y_whats, y_withs, y_whereins, y_soFars, y_afters, y_found, y_foundNexts, y_arguments, y_prints, y_itemKinds, y_itemNumbers, y_pile) (nI w) (cd_yl T n p) := by
  have hkb : k < 2 ^ 31 := by
    obtain ⟨k', a1, a2⟩ := pz_Ln_ex hR _ p rfl hl.1
    have := pz_Ln_u _ _ _ hk a1
    omega
  unfold wpY_workSpecial
  refine ys_len_ch hpy (cd_chY hR hc hb k p hk hl.2.2 (pz_CL_nD0 hl.2.1)) (pk_eq k 2 (fun z => ?_) (fun z => ?_))
  · subst z
    obtain ⟨p1, p2, _⟩ := id hk
    obtain ⟨e1, e2, e3, e4, e5, e6⟩ := cd_cell hc hb p1 p2 hl.2.2 (pz_CL_nD0 hl.2.1)
    have hq := cd_yl_p p1 p2
    rw [hq] at h ⊢
    refine ys_firstOf (by omega) ?_
    rw [e3]
    refine ys_isName hR hn hT hpy hb p1 p2 hl.2.2 (fun cn => br_f (by decide) ?_) (fun cn => br_t rfl ?_)
    · rw [sh_z, if_pos ⟨rfl, cn⟩] at h
      exact h
    · rw [sh_z, if_neg (fun y => cn y.2)] at h
      exact h
  · rw [sh_z, if_neg (fun y => z y.1)] at h
    exact h
theorem xs_toWord {u' : SX} {b w : Nat} (hc : co < 600) (hpx : px ≤ 1400) (q2 : b < px) (q4 : x_firsts b = zv_c 1 w) (h1 : 40 ≤ w) (h2 : w ≤ 45)
    (hw : ∀ post : SX → Prop, post u' → wpX_workOutWord post (x_textLength, x_pairCount, x_placeCount, x_procedureCount, x_continuationCount, x_frameCount, x_state, x_ending, zv_c 2 b, x_environment, x_frame, x_value, x_applied, x_argumentCount, nI (co + 1), x_consCount, x_entryCount, x_outputCount, x_itemCount, x_text, x_firsts, x_rests, x_placeNames, x_placeValues, x_placeOuters, x_procedureParts, x_procedurePlaces, x_continuationFrames, x_frameTasks, x_frameForms, x_frameValues, x_framePlaces, x_frameNexts, x_arguments, x_outputs, x_itemKinds, x_itemNumbers, x_openLists) (nI w) (x_rests b)) : ∀ post : SX → Prop, post u' → wpX_workOut post (x_textLength, x_pairCount, x_placeCount, x_procedureCount, x_continuationCount, x_frameCount, x_state, x_ending, zv_c 2 b, x_environment, x_frame, x_value, x_applied, x_argumentCount, nI co, x_consCount, x_entryCount, x_outputCount, x_itemCount, x_text, x_firsts, x_rests, x_placeNames, x_placeValues, x_placeOuters, x_procedureParts, x_procedurePlaces, x_continuationFrames, x_frameTasks, x_frameForms, x_frameValues, x_framePlaces, x_frameNexts, x_arguments, x_outputs, x_itemKinds, x_itemNumbers, x_openLists) := by
  intro post hp
  have hin : vp_in (zv_c 2 b).toInt32 1400 := zv_in (by omega) (by decide)
  have hcl : (zv_c 2 b).toInt32.toNatClampNeg = b := zv_cl (by omega)
  unfold wpX_workOut
  refine xs_countOne hc (br_f (by decide) (xs_tagOf (by decide) (by omega) (br_f (by decide) (br_f (by decide) (br_t rfl ⟨hin, ?_⟩)))))
  rw [hcl, q4, zk_40, zk_45, zv_lo 1 w]
  refine br_f (fun z => by have := (zv_lt (by decide) (by omega) (by decide) (by decide)).mp z; omega) ⟨hin, br_f (fun z => by have := (zv_lt (by decide) (by decide) (by decide) (by omega)).mp z; omega) ⟨hin, hin, hw _ ?_⟩⟩
  obtain ⟨x_textLength, x_pairCount, x_placeCount, x_procedureCount, x_continuationCount, x_frameCount, x_state, x_ending, x_form, x_environment, x_frame, x_value, x_applied, x_argumentCount, x_countedCount, x_consCount, x_entryCount, x_outputCount, x_itemCount, x_text, x_firsts, x_rests, x_placeNames, x_placeValues, x_placeOuters, x_procedureParts, x_procedurePlaces, x_continuationFrames, x_frameTasks, x_frameForms, x_frameValues, x_framePlaces, x_frameNexts, x_arguments, x_outputs, x_itemKinds, x_itemNumbers, x_openLists⟩ := u'
  exact hp
theorem ys_toSpecial {v' : SY} {a w : Nat} (hc : co < 600) (hy : y_ending = -1000000003) (hpy : py ≤ 900) (q1 : a < py) (q3 : y_firsts a = zv_c 4 w) (h1 : 40 ≤ w) (h2 : w ≤ 45)
    (hw : ∀ post : SY → Prop, post v' → wpY_workSpecial post (y_size, y_pairs, y_open, y_formCount, y_places, y_procedures, y_continuationCount, y_things, y_foundCount, y_argumentCount, y_value, zv_c 3 a, y_wherein, y_next, y_working, y_ending, nI (co + 1), y_made, y_entered, y_printCount, y_itemCount, y_text, y_firsts, y_rests, y_heads, y_lasts, y_globals, y_placeNames, y_placeValues, y_placeNexts, y_procedureForms, y_procedurePlaces, y_continuations, y_whats, y_withs, y_whereins, y_soFars, y_afters, y_found, y_foundNexts, y_arguments, y_prints, y_itemKinds, y_itemNumbers, y_pile) (nI w) (y_rests a)) : ∀ post : SY → Prop, post v' → wpY_work post (y_size, y_pairs, y_open, y_formCount, y_places, y_procedures, y_continuationCount, y_things, y_foundCount, y_argumentCount, y_value, zv_c 3 a, y_wherein, y_next, y_working, y_ending, nI co, y_made, y_entered, y_printCount, y_itemCount, y_text, y_firsts, y_rests, y_heads, y_lasts, y_globals, y_placeNames, y_placeValues, y_placeNexts, y_procedureForms, y_procedurePlaces, y_continuations, y_whats, y_withs, y_whereins, y_soFars, y_afters, y_found, y_foundNexts, y_arguments, y_prints, y_itemKinds, y_itemNumbers, y_pile) := by
  intro post hp
  subst hy
  unfold wpY_work
  refine ys_count hc (br_t rfl (ys_tag (by decide) (by omega) (br_t (by decide) (br_f (by decide) (br_f (by decide) (br_t rfl (ys_firstOf (by omega) (ys_restOf (by omega) ?_))))))))
  rw [q3]
  refine ys_tag (by decide) (by omega) (br_t rfl ?_)
  rw [zv_lo]
  refine br_f (nI_nlt (b := 40) (by omega) (by omega)) (br_f (nI_ge (b := 50) (by omega) (by decide)) (hw _ ?_))
  obtain ⟨y_size, y_pairs, y_open, y_formCount, y_places, y_procedures, y_continuationCount, y_things, y_foundCount, y_argumentCount, y_value, y_form, y_wherein, y_next, y_working, y_ending, y_counts, y_made, y_entered, y_printCount, y_itemCount, y_text, y_firsts, y_rests, y_heads, y_lasts, y_globals, y_placeNames, y_placeValues, y_placeNexts, y_procedureForms, y_procedurePlaces, y_continuations, y_whats, y_withs, y_whereins, y_soFars, y_afters, y_found, y_foundNexts, y_arguments, y_prints, y_itemKinds, y_itemNumbers, y_pile⟩ := v'
  exact hp
end
