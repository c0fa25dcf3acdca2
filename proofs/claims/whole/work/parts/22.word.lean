/-! a form is worked out: applications and words -/
section
variable {x_textLength : Int32} {x_pairCount : Int32} {x_placeCount : Int32} {x_procedureCount : Int32} {x_continuationCount : Int32} {x_frameCount : Int32} {x_state : Int32} {x_ending : Int32} {x_form : Int64} {x_environment : Int32} {x_frame : Int32} {x_value : Int64} {x_applied : Int64} {x_argumentCount : Int32} {x_countedCount : Int32} {x_consCount : Int32} {x_entryCount : Int32} {x_outputCount : Int32} {x_itemCount : Int32} {x_text : Nat → Int32} {x_firsts : Nat → Int64} {x_rests : Nat → Int64} {x_placeNames : Nat → Int32} {x_placeValues : Nat → Int64} {x_placeOuters : Nat → Int32} {x_procedureParts : Nat → Int64} {x_procedurePlaces : Nat → Int32} {x_continuationFrames : Nat → Int32} {x_frameTasks : Nat → Int32} {x_frameForms : Nat → Int64} {x_frameValues : Nat → Int64} {x_framePlaces : Nat → Int32} {x_frameNexts : Nat → Int32} {x_arguments : Nat → Int64} {x_outputs : Nat → Int32} {x_itemKinds : Nat → Int32} {x_itemNumbers : Nat → Int32} {x_openLists : Nat → Int64}
variable {y_size : Int32} {y_pairs : Int32} {y_open : Int32} {y_formCount : Int32} {y_places : Int32} {y_procedures : Int32} {y_continuationCount : Int32} {y_things : Int32} {y_foundCount : Int32} {y_argumentCount : Int32} {y_value : Int64} {y_form : Int64} {y_wherein : Int32} {y_next : Int32} {y_working : Int32} {y_ending : Int32} {y_counts : Int32} {y_made : Int32} {y_entered : Int32} {y_printCount : Int32} {y_itemCount : Int32} {y_text : Nat → Int32} {y_firsts : Nat → Int64} {y_rests : Nat → Int64} {y_heads : Nat → Int32} {y_lasts : Nat → Int32} {y_globals : Nat → Int64} {y_placeNames : Nat → Int32} {y_placeValues : Nat → Int64} {y_placeNexts : Nat → Int32} {y_procedureForms : Nat → Int64} {y_procedurePlaces : Nat → Int32} {y_continuations : Nat → Int32} {y_whats : Nat → Int32} {y_withs : Nat → Int64} {y_whereins : Nat → Int32} {y_soFars : Nat → Int32} {y_afters : Nat → Int32} {y_found : Nat → Int64} {y_foundNexts : Nat → Int32} {y_arguments : Nat → Int64} {y_prints : Nat → Int32} {y_itemKinds : Nat → Int32} {y_itemNumbers : Nat → Int32} {y_pile : Nat → Int64}
variable {T : Nat → Nat} {n px py pl np nc nf fo co cn et pc : Nat} {M : Nat → Nat → Prop} {G : Nat → Nat}
theorem hd_v {h : Nat} (hn : n ≤ 70) (hR : pz_Rd T n) (hT : ∀ i, i < n → zv_tk (T i)) (hh : h < n) (h1 : T h ≠ 1) (hm : ¬ pz_mk T h) (hw : ¬ (40 ≤ T h ∧ T h ≤ 45)) :
    (∃ s l, s < 16 ∧ l < 4294967296 ∧ cd_xv T n h = zv_c s l ∧ ¬ (s = 1 ∧ 40 ≤ l ∧ l ≤ 45)) ∧ (∃ s l, s < 16 ∧ l < 4294967296 ∧ cd_yv T n h = zv_c s l ∧ (s = 4 → l < 40 ∨ (50 ≤ l ∧ l < 100))) := by
  have hP := pz_P_le (T := T) n hn
  have hW := pz_W_le (T := T) (i := n)
  by_cases c0 : T h = 0
  · rw [cd_xv_0 c0, cd_yv_0 c0]
    by_cases c : h + 1 < n ∧ T (h + 1) ≠ 1
    · have hN : pz_Nd T n 0 (h + 1) := ⟨c.1, Or.inl ⟨rfl, c.2, fun z => by have := pz_mk_s.mp z; omega⟩⟩
      have a1 := pz_AX_lt hR hN
      have a2 := pz_AY_lt hR hN
      rw [cd_xl_p c.1 c.2, cd_yl_p c.1 c.2]
      exact ⟨⟨2, _, by decide, by omega, rfl, by omega⟩, ⟨3, _, by decide, by omega, rfl, fun z => by omega⟩⟩
    · rw [cd_xl_e c, cd_yl_e c]
      exact ⟨⟨3, 0, by decide, by decide, rfl, by omega⟩, ⟨2, 0, by decide, by decide, rfl, fun z => by omega⟩⟩
  · by_cases c2 : T h = 2
    · have hN : pz_Nd T n 1 h := ⟨hh, Or.inr ⟨Or.inl rfl, c2⟩⟩
      have a1 := pz_AX_lt hR hN
      have a2 := pz_AY_lt hR hN
      rw [cd_xv_2 c2, cd_yv_2 c2]
      exact ⟨⟨2, _, by decide, by omega, rfl, by omega⟩, ⟨3, _, by decide, by omega, rfl, fun z => by omega⟩⟩
    · have h3 : 3 ≤ T h := by omega
      rw [cd_xv_a h3, cd_yv_a h3]
      have ht := hT h hh
      rcases cd_atom ht h3 with ⟨a, s, k, k1, k2, _, k3, k4⟩ | ⟨k1, k2, k3⟩
      · rw [k3, k4]
        exact ⟨⟨s, k, by omega, k1, rfl, by omega⟩, ⟨a, k, by omega, k1, rfl, fun z => by omega⟩⟩
      · rw [k2, k3]
        unfold zv_tk at ht
        exact ⟨⟨1, T h, by omega, by omega, rfl, by omega⟩, ⟨4, T h, by omega, by omega, rfl, fun z => by omega⟩⟩
/-- an application: its first form is next -/
theorem st_app {a b h : Nat} (hr : sm_R T n M G px py pl np nc nf fo (co + 1) cn et pc (x_textLength, x_pairCount, x_placeCount, x_procedureCount, x_continuationCount, x_frameCount, x_state, x_ending, zv_c 2 b, x_environment, x_frame, x_value, x_applied, x_argumentCount, nI (co + 1), x_consCount, x_entryCount, x_outputCount, x_itemCount, x_text, x_firsts, x_rests, x_placeNames, x_placeValues, x_placeOuters, x_procedureParts, x_procedurePlaces, x_continuationFrames, x_frameTasks, x_frameForms, x_frameValues, x_framePlaces, x_frameNexts, x_arguments, x_outputs, x_itemKinds, x_itemNumbers, x_openLists) (y_size, y_pairs, y_open, y_formCount, y_places, y_procedures, y_continuationCount, y_things, y_foundCount, y_argumentCount, y_value, zv_c 3 a, y_wherein, y_next, y_working, y_ending, nI (co + 1), y_made, y_entered, y_printCount, y_itemCount, y_text, y_firsts, y_rests, y_heads, y_lasts, y_globals, y_placeNames, y_placeValues, y_placeNexts, y_procedureForms, y_procedurePlaces, y_continuations, y_whats, y_withs, y_whereins, y_soFars, y_afters, y_found, y_foundNexts, y_arguments, y_prints, y_itemKinds, y_itemNumbers, y_pile)) (hc : co < 600) (hb : fo ≤ co + 1 ∧ nf ≤ co + 1) (hx : x_ending = -1) (hs : x_state = 0) (hy : y_ending = -1000000003) (hf : x_frame = y_next) (hf2 : fm_N nf y_next)
    (he : en_R pl y_wherein x_environment) (q1 : a < py) (q2 : b < px) (q3 : h < n) (q4 : T h ≠ 1) (q5 : pz_CF T h) (q6 : y_firsts a = cd_yv T n h) (q7 : x_firsts b = cd_xv T n h) (q8 : y_rests a = cd_yl T n (pz_nx T n h)) (q9 : x_rests b = cd_xl T n (pz_nx T n h)) (q10 : ls_P T n (pz_nx T n h)) (q11 : ¬ (40 ≤ T h ∧ T h ≤ 45)) :
    ∃ u' v', (∀ post : SX → Prop, post u' → wpX_workOut post (x_textLength, x_pairCount, x_placeCount, x_procedureCount, x_continuationCount, x_frameCount, x_state, x_ending, zv_c 2 b, x_environment, x_frame, x_value, x_applied, x_argumentCount, nI co, x_consCount, x_entryCount, x_outputCount, x_itemCount, x_text, x_firsts, x_rests, x_placeNames, x_placeValues, x_placeOuters, x_procedureParts, x_procedurePlaces, x_continuationFrames, x_frameTasks, x_frameForms, x_frameValues, x_framePlaces, x_frameNexts, x_arguments, x_outputs, x_itemKinds, x_itemNumbers, x_openLists)) ∧ (∀ post : SY → Prop, post v' → wpY_work post (y_size, y_pairs, y_open, y_formCount, y_places, y_procedures, y_continuationCount, y_things, y_foundCount, y_argumentCount, y_value, zv_c 3 a, y_wherein, y_next, y_working, y_ending, nI co, y_made, y_entered, y_printCount, y_itemCount, y_text, y_firsts, y_rests, y_heads, y_lasts, y_globals, y_placeNames, y_placeValues, y_placeNexts, y_procedureForms, y_procedurePlaces, y_continuations, y_whats, y_withs, y_whereins, y_soFars, y_afters, y_found, y_foundNexts, y_arguments, y_prints, y_itemKinds, y_itemNumbers, y_pile)) ∧ sm_to T n (co + 1) u' v' := by
  have hr' := hr
  obtain ⟨a0, ⟨n1, n2, n3, n4, n5, n6, n7, n8, n9, n10, n11⟩, ⟨m1, m2, m3, m4, m5, m6, m7, m8, m9, m10, m11⟩, b0, c1, c2, c3, c4, c5, c6, c7, c8⟩ := hr
  subst hx hy hs n6 m6
  obtain ⟨⟨s, l, s1, s2, s3, s4⟩, ⟨s', l', t1, t2, t3, t4⟩⟩ := hd_v a0.2.1 a0.1 a0.2.2.1 q3 q4 q5.1 q11
  have hk := rk_push (w := 4) (ey := y_wherein) (ex := x_environment) (sy := -1) (sx := zv_c 3 0) (f := y_next) hr' he hf2 (Or.inr (Or.inr ⟨_, rfl, q10, rfl, rfl, Or.inl ⟨rfl, rfl⟩⟩))
  have hin : vp_in (zv_c 2 b).toInt32 1400 := zv_in (by omega) (by decide)
  have hcl : (zv_c 2 b).toInt32.toNatClampNeg = b := zv_cl (by omega)
  refine ⟨(x_textLength, x_pairCount, x_placeCount, x_procedureCount, x_continuationCount, nI (nf + 1), 0, -1, cd_xv T n h, x_environment, nI nf, x_value, x_applied, x_argumentCount, nI (co + 1), x_consCount, x_entryCount, x_outputCount, x_itemCount, x_text, x_firsts, x_rests, x_placeNames, x_placeValues, x_placeOuters, x_procedureParts, x_procedurePlaces, x_continuationFrames, upd x_frameTasks nf 4, vp_updL x_frameForms nf (cd_xl T n (pz_nx T n h)), vp_updL x_frameValues nf (zv_c 3 0), upd x_framePlaces nf x_environment, upd x_frameNexts nf y_next, x_arguments, x_outputs, x_itemKinds, x_itemNumbers, x_openLists),
    (y_size, y_pairs, y_open, y_formCount, y_places, y_procedures, y_continuationCount, nI (nf + 1), y_foundCount, y_argumentCount, y_value, cd_yv T n h, y_wherein, nI nf, 1, -1000000003, nI (co + 1), y_made, y_entered, y_printCount, y_itemCount, y_text, y_firsts, y_rests, y_heads, y_lasts, y_globals, y_placeNames, y_placeValues, y_placeNexts, y_procedureForms, y_procedurePlaces, y_continuations, upd y_whats nf 4, vp_updL y_withs nf (cd_yl T n (pz_nx T n h)), upd y_whereins nf y_wherein, upd y_soFars nf (-1), upd y_afters nf y_next, y_found, y_foundNexts, y_arguments, y_prints, y_itemKinds, y_itemNumbers, y_pile), fun post hp => ?_, fun post hp => ?_,
    Or.inr (Or.inl ⟨M, G, px, py, pl, np, nc, nf + 1, fo, cn, et, pc, h, hk, by omega, rfl, rfl, rfl, rfl, ⟨q3, q4, q5⟩, rfl, rfl, he, rfl, Or.inr ⟨nf, by omega, rfl⟩⟩)⟩
  · have h124 : wX_workOut_124 post x_textLength x_pairCount x_placeCount x_procedureCount x_continuationCount (nI nf) 0 (-1) (zv_c 2 b) x_environment x_frame x_value x_applied x_argumentCount (nI (co + 1)) x_consCount x_entryCount x_outputCount x_itemCount x_text x_firsts x_rests x_placeNames x_placeValues x_placeOuters x_procedureParts x_procedurePlaces x_continuationFrames x_frameTasks x_frameForms x_frameValues x_framePlaces x_frameNexts x_arguments x_outputs x_itemKinds x_itemNumbers x_openLists := by
      refine ⟨hin, ?_⟩
      rw [hcl, q9, zk_xE]
      refine xs_push (by omega) ⟨hin, nm_r ((cl_R hcl).trans q7) ?_⟩
      rw [hf]
      exact hp
    unfold wpX_workOut
    refine xs_countOne hc (br_f (by decide) (xs_tagOf (by decide) (by omega) (br_f (by decide) (br_f (by decide) (br_t rfl ⟨hin, ?_⟩)))))
    rw [hcl, q7, s3, zk_40, zk_45]
    by_cases z : zv_c s l < zv_c 1 40
    · exact br_t z h124
    · refine br_f z ⟨hin, br_t ?_ h124⟩
      rw [zv_lt s1 s2 (by decide) (by decide)] at z
      rw [zv_lt (by decide) (by decide) s1 s2]
      omega
  · have h155 : wY_work_155 post (cd_yv T n h) (cd_yl T n (pz_nx T n h)) y_size y_pairs y_open y_formCount y_places y_procedures y_continuationCount (nI nf) y_foundCount y_argumentCount y_value (zv_c 3 a) y_wherein y_next y_working (-1000000003) (nI (co + 1)) y_made y_entered y_printCount y_itemCount y_text y_firsts y_rests y_heads y_lasts y_globals y_placeNames y_placeValues y_placeNexts y_procedureForms y_procedurePlaces y_continuations y_whats y_withs y_whereins y_soFars y_afters y_found y_foundNexts y_arguments y_prints y_itemKinds y_itemNumbers y_pile := by
      unfold wY_work_155
      exact ys_later (by omega) hp
    unfold wpY_work
    refine ys_count hc (br_t rfl (ys_tag (by decide) (by omega) (br_t (by decide) (br_f (by decide) (br_f (by decide) (br_t rfl (ys_firstOf (by omega) (ys_restOf (by omega) ?_))))))))
    rw [q6, q8]
    rw [t3] at h155 ⊢
    refine ys_tag t1 t2 ?_
    rw [zv_lo]
    by_cases z : s' = 4
    · subst z
      have := t4 rfl
      exact br_t rfl (pk_lt l' 40 (fun _ => h155) (fun _ => br_t (nI_le (a := 50) (by omega) (by omega)) h155))
    · exact br_f (ne_I (b := 4) z (by omega) (by decide)) h155
end
