/-! words: both sides -/
section
variable {x_textLength : Int32} {x_pairCount : Int32} {x_placeCount : Int32} {x_procedureCount : Int32} {x_continuationCount : Int32} {x_frameCount : Int32} {x_state : Int32} {x_ending : Int32} {x_form : Int64} {x_environment : Int32} {x_frame : Int32} {x_value : Int64} {x_applied : Int64} {x_argumentCount : Int32} {x_countedCount : Int32} {x_consCount : Int32} {x_entryCount : Int32} {x_outputCount : Int32} {x_itemCount : Int32} {x_text : Nat → Int32} {x_firsts : Nat → Int64} {x_rests : Nat → Int64} {x_placeNames : Nat → Int32} {x_placeValues : Nat → Int64} {x_placeOuters : Nat → Int32} {x_procedureParts : Nat → Int64} {x_procedurePlaces : Nat → Int32} {x_continuationFrames : Nat → Int32} {x_frameTasks : Nat → Int32} {x_frameForms : Nat → Int64} {x_frameValues : Nat → Int64} {x_framePlaces : Nat → Int32} {x_frameNexts : Nat → Int32} {x_arguments : Nat → Int64} {x_outputs : Nat → Int32} {x_itemKinds : Nat → Int32} {x_itemNumbers : Nat → Int32} {x_openLists : Nat → Int64}
variable {y_size : Int32} {y_pairs : Int32} {y_open : Int32} {y_formCount : Int32} {y_places : Int32} {y_procedures : Int32} {y_continuationCount : Int32} {y_things : Int32} {y_foundCount : Int32} {y_argumentCount : Int32} {y_value : Int64} {y_form : Int64} {y_wherein : Int32} {y_next : Int32} {y_working : Int32} {y_ending : Int32} {y_counts : Int32} {y_made : Int32} {y_entered : Int32} {y_printCount : Int32} {y_itemCount : Int32} {y_text : Nat → Int32} {y_firsts : Nat → Int64} {y_rests : Nat → Int64} {y_heads : Nat → Int32} {y_lasts : Nat → Int32} {y_globals : Nat → Int64} {y_placeNames : Nat → Int32} {y_placeValues : Nat → Int64} {y_placeNexts : Nat → Int32} {y_procedureForms : Nat → Int64} {y_procedurePlaces : Nat → Int32} {y_continuations : Nat → Int32} {y_whats : Nat → Int32} {y_withs : Nat → Int64} {y_whereins : Nat → Int32} {y_soFars : Nat → Int32} {y_afters : Nat → Int32} {y_found : Nat → Int64} {y_foundNexts : Nat → Int32} {y_arguments : Nat → Int64} {y_prints : Nat → Int32} {y_itemKinds : Nat → Int32} {y_itemNumbers : Nat → Int32} {y_pile : Nat → Int64}
variable {T : Nat → Nat} {n px py pl np nc nf fo co cn et pc : Nat} {M : Nat → Nat → Prop} {G : Nat → Nat}
/-- otherwise than it must be -/
theorem yw_syn {post : SY → Prop} {w k p : Nat} (hR : pz_Rd T n) (hn : n ≤ 70) (hT : ∀ i, i < n → zv_tk (T i)) (hpy : py ≤ 900) (hc : cd_OK T n y_firsts y_rests x_firsts x_rests) (hb : ∀ r j, pz_Nd T n r j → pz_AY T n r j < py ∧ pz_AX T n r j < px)
    (hk : pz_Ln T n k p) (hl : ls_P T n p) (h1 : 41 ≤ w) (h2 : w ≤ 45) (hs : ¬ sh_OK T w k p) (hp : post (y_size, y_pairs, y_open, y_formCount, y_places, y_procedures, y_continuationCount, y_things, y_foundCount, y_argumentCount, y_value, y_form, y_wherein, y_next, y_working, 4, y_counts, y_made, y_entered, y_printCount, y_itemCount, y_text, y_firsts, y_rests, y_heads, y_lasts, y_globals, y_placeNames, y_placeValues, y_placeNexts, y_procedureForms, y_procedurePlaces, y_continuations, y_whats, y_withs, y_whereins, y_soFars, y_afters, y_found, y_foundNexts, y_arguments, y_prints, y_itemKinds, y_itemNumbers, y_pile)) : wpY_workSpecial post (y_size, y_pairs, y_open, y_formCount, y_places, y_procedures, y_continuationCount, y_things, y_foundCount, y_argumentCount, y_value, y_form, y_wherein, y_next, y_working, y_ending, y_counts, y_made, y_entered, y_printCount, y_itemCount, y_text, y_firsts, y_rests, y_heads, y_lasts, y_globals, y_placeNames, y_placeValues, y_placeNexts, y_procedureForms, y_procedurePlaces, y_continuations, y_whats, y_withs, y_whereins, y_soFars, y_afters, y_found, y_foundNexts, y_arguments, y_prints, y_itemKinds, y_itemNumbers, y_pile) (nI w) (cd_yl T n p) := by
  have hkb : k < 2 ^ 31 := by
    obtain ⟨k', a1, a2⟩ := pz_Ln_ex hR _ p rfl hl.1
    have := pz_Ln_u _ _ _ hk a1
    omega
  refine ys_sp hR hn hT hpy hc hb hk hl ?_
  have hw : w = 41 ∨ w = 42 ∨ (w = 43 ∨ w = 44) ∨ w = 45 := by omega
  rcases hw with rfl | rfl | hw | rfl
  · have a : k ≠ 2 ∧ k ≠ 3 := ⟨fun z => hs (Or.inl ⟨rfl, Or.inl z⟩), fun z => hs (Or.inl ⟨rfl, Or.inr z⟩)⟩
    exact br_f (by decide) (br_t rfl (br_f (ne_I (b := 2) a.1 hkb (by decide)) (br_f (ne_I (b := 3) a.2 hkb (by decide)) (br_f (by decide) (br_f (by decide) (br_f (by decide) (br_f (by decide) hp)))))))
  · have h178 : wY_workSpecial_178 post (nI 42) (cd_yl T n p) (nI k) (sh_z T k p) y_size y_pairs y_open y_formCount y_places y_procedures y_continuationCount y_things y_foundCount y_argumentCount y_value y_form y_wherein y_next y_working y_ending y_counts y_made y_entered y_printCount y_itemCount y_text y_firsts y_rests y_heads y_lasts y_globals y_placeNames y_placeValues y_placeNexts y_procedureForms y_procedurePlaces y_continuations y_whats y_withs y_whereins y_soFars y_afters y_found y_foundNexts y_arguments y_prints y_itemKinds y_itemNumbers y_pile := br_f (by decide) (br_f (by decide) (br_f (by decide) hp))
    refine br_f (by decide) (br_f (by decide) (br_t rfl (pk_le k 1 (fun _ => h178) (fun z => ?_))))
    obtain ⟨p1, p2⟩ : p < n ∧ T p ≠ 1 := by
      cases k with
      | zero => omega
      | succ k => exact ⟨hk.1, hk.2.1⟩
    obtain ⟨e1, e2, e3, e4, e5, e6⟩ := cd_cell hc hb p1 p2 hl.2.2 (pz_CL_nD0 hl.2.1)
    rw [cd_yl_p p1 p2] at h178 ⊢
    refine ys_firstOf (by omega) ?_
    rw [e3]
    exact ys_areNames hR hn hT hpy hc hb p1 p2 (ls_CF hl) (fun y => absurd (Or.inr (Or.inl ⟨rfl, z, y.1, y.2⟩)) hs) (fun y => br_t rfl h178)
  · have hz : sh_z T k p = 0 := if_neg (fun z => hs (Or.inr (Or.inr (Or.inl ⟨hw, z.1, z.2.1, z.2.2⟩))))
    rw [hz]
    rcases hw with rfl | rfl
    · exact br_f (by decide) (br_f (by decide) (br_f (by decide) (br_t rfl (br_t rfl (br_f (by decide) hp)))))
    · exact br_f (by decide) (br_f (by decide) (br_f (by decide) (br_f (by decide) (br_t rfl (br_t rfl (br_f (by decide) hp))))))
  · have a : k = 0 := by
      by_cases z : k = 0
      · exact z
      · exact absurd (Or.inr (Or.inr (Or.inr ⟨rfl, by omega⟩))) hs
    subst a
    exact br_f (by decide) (br_f (by decide) (br_f (by decide) (br_f (by decide) (br_f (by decide) (br_t rfl (br_t (by decide) hp))))))
theorem st_word {a b w p : Nat} (hr : sm_R T n M G px py pl np nc nf fo (co + 1) cn et pc (x_textLength, x_pairCount, x_placeCount, x_procedureCount, x_continuationCount, x_frameCount, x_state, x_ending, zv_c 2 b, x_environment, x_frame, x_value, x_applied, x_argumentCount, nI (co + 1), x_consCount, x_entryCount, x_outputCount, x_itemCount, x_text, x_firsts, x_rests, x_placeNames, x_placeValues, x_placeOuters, x_procedureParts, x_procedurePlaces, x_continuationFrames, x_frameTasks, x_frameForms, x_frameValues, x_framePlaces, x_frameNexts, x_arguments, x_outputs, x_itemKinds, x_itemNumbers, x_openLists) (y_size, y_pairs, y_open, y_formCount, y_places, y_procedures, y_continuationCount, y_things, y_foundCount, y_argumentCount, y_value, zv_c 3 a, y_wherein, y_next, y_working, y_ending, nI (co + 1), y_made, y_entered, y_printCount, y_itemCount, y_text, y_firsts, y_rests, y_heads, y_lasts, y_globals, y_placeNames, y_placeValues, y_placeNexts, y_procedureForms, y_procedurePlaces, y_continuations, y_whats, y_withs, y_whereins, y_soFars, y_afters, y_found, y_foundNexts, y_arguments, y_prints, y_itemKinds, y_itemNumbers, y_pile)) (hc : co < 600) (hnp : np ≤ co) (hb : fo ≤ co + 1 ∧ nf ≤ co + 1) (hx : x_ending = -1) (hs : x_state = 0) (hy : y_ending = -1000000003) (hf : x_frame = y_next) (hf2 : fm_N nf y_next)
    (he : en_R pl y_wherein x_environment) (q1 : a < py) (q2 : b < px) (q3 : y_firsts a = zv_c 4 w) (q4 : x_firsts b = zv_c 1 w) (h1 : 40 < w) (h2 : w ≤ 45) (hl : ls_P T n p) (q5 : y_rests a = cd_yl T n p) (q6 : x_rests b = cd_xl T n p) :
    ∃ u' v', (∀ post : SX → Prop, post u' → wpX_workOut post (x_textLength, x_pairCount, x_placeCount, x_procedureCount, x_continuationCount, x_frameCount, x_state, x_ending, zv_c 2 b, x_environment, x_frame, x_value, x_applied, x_argumentCount, nI co, x_consCount, x_entryCount, x_outputCount, x_itemCount, x_text, x_firsts, x_rests, x_placeNames, x_placeValues, x_placeOuters, x_procedureParts, x_procedurePlaces, x_continuationFrames, x_frameTasks, x_frameForms, x_frameValues, x_framePlaces, x_frameNexts, x_arguments, x_outputs, x_itemKinds, x_itemNumbers, x_openLists)) ∧ (∀ post : SY → Prop, post v' → wpY_work post (y_size, y_pairs, y_open, y_formCount, y_places, y_procedures, y_continuationCount, y_things, y_foundCount, y_argumentCount, y_value, zv_c 3 a, y_wherein, y_next, y_working, y_ending, nI co, y_made, y_entered, y_printCount, y_itemCount, y_text, y_firsts, y_rests, y_heads, y_lasts, y_globals, y_placeNames, y_placeValues, y_placeNexts, y_procedureForms, y_procedurePlaces, y_continuations, y_whats, y_withs, y_whereins, y_soFars, y_afters, y_found, y_foundNexts, y_arguments, y_prints, y_itemKinds, y_itemNumbers, y_pile)) ∧ sm_to T n (co + 1) u' v' := by
  have hr' := hr
  obtain ⟨a0, ⟨n1, n2, n3, n4, n5, n6, n7, n8, n9, n10, n11⟩, ⟨m1, m2, m3, m4, m5, m6, m7, m8, m9, m10, m11⟩, b0, c1, c2, c3, c4, c5, c6, c7, c8⟩ := hr
  subst hx hy hs n2 n4 n6 m4 m6
  have hR := a0.1
  have hn := a0.2.1
  have hT := a0.2.2.1
  have hbb := c2.1.2.2.2.2.2
  have hpx : px ≤ 1400 := by omega
  have hpy : py ≤ 900 := by omega
  obtain ⟨k, hk, hkn⟩ := pz_Ln_ex hR _ p rfl hl.1
  have hkb : k < 2 ^ 31 := by omega
  by_cases sh : sh_OK T w k p
  · obtain ⟨p1, p2⟩ : p < n ∧ T p ≠ 1 := by
      cases k with
      | zero => unfold sh_OK at sh; omega
      | succ k => exact ⟨hk.1, hk.2.1⟩
    obtain ⟨e1, e2, e3, e4, e5, e6⟩ := cd_cell c1 hbb p1 p2 hl.2.2 (pz_CL_nD0 hl.2.1)
    have hin : vp_in (zv_c 2 (pz_AX T n 0 p)).toInt32 1400 := zv_in (by omega) (by decide)
    have hcl : (zv_c 2 (pz_AX T n 0 p)).toInt32.toNatClampNeg = pz_AX T n 0 p := zv_cl (by omega)
    have hpl := cd_xl_p (T := T) (n := n) p1 p2
    have hql := cd_yl_p (T := T) (n := n) p1 p2
    have hls := ls_nx hR hl p1 p2
    have hcan := id sh
    rcases sh with ⟨rfl, s1⟩ | ⟨rfl, s1, s2, s3⟩ | ⟨hw, rfl, s1, s2⟩ | ⟨rfl, s1⟩
    · -- if
      obtain ⟨r1, r2⟩ : pz_nx T n p < n ∧ T (pz_nx T n p) ≠ 1 := by
        cases k with
        | zero => omega
        | succ k =>
          cases k with
          | zero => omega
          | succ k => exact ⟨hk.2.2.1, hk.2.2.2.1⟩
      have hk9 := rk_push (w := 1) (ey := y_wherein) (ex := x_environment) (sy := 0) (sx := zv_c 3 0) (f := y_next) hr' he hf2 (Or.inl ⟨1, pz_nx T n p, by decide, rfl, hls, r1, r2, rfl, rfl⟩)
      refine ⟨(x_textLength, nI px, x_placeCount, nI np, x_continuationCount, nI (nf + 1), 0, -1, cd_xv T n p, x_environment, nI nf, x_value, x_applied, x_argumentCount, nI (co + 1), x_consCount, x_entryCount, x_outputCount, x_itemCount, x_text, x_firsts, x_rests, x_placeNames, x_placeValues, x_placeOuters, x_procedureParts, x_procedurePlaces, x_continuationFrames, upd x_frameTasks nf 1, vp_updL x_frameForms nf (cd_xl T n (pz_nx T n p)), vp_updL x_frameValues nf (zv_c 3 0), upd x_framePlaces nf x_environment, upd x_frameNexts nf y_next, x_arguments, x_outputs, x_itemKinds, x_itemNumbers, x_openLists),
        (y_size, y_pairs, y_open, y_formCount, y_places, nI np, y_continuationCount, nI (nf + 1), y_foundCount, y_argumentCount, y_value, cd_yv T n p, y_wherein, nI nf, 1, -1000000003, nI (co + 1), y_made, y_entered, y_printCount, y_itemCount, y_text, y_firsts, y_rests, y_heads, y_lasts, y_globals, y_placeNames, y_placeValues, y_placeNexts, y_procedureForms, y_procedurePlaces, y_continuations, upd y_whats nf 1, vp_updL y_withs nf (cd_yl T n (pz_nx T n p)), upd y_whereins nf y_wherein, upd y_soFars nf 0, upd y_afters nf y_next, y_found, y_foundNexts, y_arguments, y_prints, y_itemKinds, y_itemNumbers, y_pile),
        xs_toWord hc hpx q2 q4 (by omega) h2 (fun post hp => ?_), ys_toSpecial hc rfl hpy q1 q3 (by omega) h2 (fun post hp => ?_),
        Or.inr (Or.inl ⟨M, G, px, py, pl, np, nc, nf + 1, fo, cn, et, pc, p, hk9, by omega, rfl, rfl, rfl, rfl, ⟨p1, p2, ls_CF hl⟩, rfl, rfl, he, rfl, Or.inr ⟨nf, by omega, rfl⟩⟩)⟩
      · rw [q6]
        unfold wpX_workOutWord
        refine xs_shape hR hn hT hpx c1 hbb hk hl (by omega) h2 (fun _ => br_f (by decide) ?_) (fun z => absurd hcan z)
        rw [hpl]
        refine ⟨hin, nm_r ((cl_R hcl).trans e5) ⟨hin, nm_r ((cl_R hcl).trans e6) (br_f (by decide) (br_f (by decide) (br_f (by decide) (br_t rfl ?_))))⟩⟩
        rw [zk_xE]
        refine xs_push (by omega) ?_
        rw [hf]
        exact hp
      · rw [q5]
        refine ys_sp hR hn hT hpy c1 hbb hk hl ?_
        have h74 : wY_workSpecial_74 post (cd_yl T n p) y_size y_pairs y_open y_formCount y_places (nI np) y_continuationCount (nI nf) y_foundCount y_argumentCount y_value (zv_c 3 a) y_wherein y_next y_working (-1000000003) (nI (co + 1)) y_made y_entered y_printCount y_itemCount y_text y_firsts y_rests y_heads y_lasts y_globals y_placeNames y_placeValues y_placeNexts y_procedureForms y_procedurePlaces y_continuations y_whats y_withs y_whereins y_soFars y_afters y_found y_foundNexts y_arguments y_prints y_itemKinds y_itemNumbers y_pile := by
          unfold wY_workSpecial_74
          rw [hql]
          refine ys_restOf (by omega) ?_
          rw [e4]
          refine ys_later (by omega) (ys_firstOf (by omega) ?_)
          rw [e3]
          exact hp
        exact br_f (by decide) (br_t rfl (pk_eq k 2 (fun _ => h74) (fun z => pk_eq k 3 (fun _ => h74) (fun y => by omega))))
    · -- lambda
      obtain ⟨r1, r2⟩ : pz_nx T n p < n ∧ T (pz_nx T n p) ≠ 1 := by
        cases k with
        | zero => omega
        | succ k =>
          cases k with
          | zero => omega
          | succ k => exact ⟨hk.2.2.1, hk.2.2.2.1⟩
      obtain ⟨c, l1, l2, l3⟩ := na_W_L 4 (p + 1) 0 s3
      have hk9 := rk_proc (p := p) (c := c) (y := y_wherein) (x := x_environment) hr' (by omega) he hl p1 ⟨s2, l1, l2, l3⟩ r1 r2
      have hV : zv_V M (np + 1) nc (zv_c 5 np) (zv_c 5 np) := ⟨5, np, 5, np, by omega, by omega, rfl, rfl, Or.inr (Or.inr (Or.inr (Or.inr (Or.inr (Or.inl ⟨rfl, rfl, rfl, by omega⟩)))))⟩
      obtain ⟨f, hf9, hv⟩ := sm_mkV hk9 hb rfl rfl hV hf hf2
      have hip : vp_in (nI np) 700 := vp_in_nI (by omega) (by decide)
      have hiq : vp_in (nI np) 801 := vp_in_nI (by omega) (by decide)
      have hep : (nI np).toNatClampNeg = np := nI_clamp (by omega)
      refine ⟨_, _, xs_toWord hc hpx q2 q4 (by omega) h2 (fun post hp => ?_), ys_toSpecial hc rfl hpy q1 q3 (by omega) h2 (fun post hp => ?_), Or.inr (Or.inr ⟨f, hf9, hv⟩)⟩
      · rw [q6]
        unfold wpX_workOutWord
        refine xs_shape hR hn hT hpx c1 hbb hk hl (by omega) h2 (fun _ => br_f (by decide) ?_) (fun z => absurd hcan z)
        have hmk : wpX_makeProcedure post (x_textLength, nI px, x_placeCount, nI np, x_continuationCount, nI nf, 0, -1, zv_c 2 b, x_environment, x_frame, x_value, x_applied, x_argumentCount, nI (co + 1), x_consCount, x_entryCount, x_outputCount, x_itemCount, x_text, x_firsts, x_rests, x_placeNames, x_placeValues, x_placeOuters, x_procedureParts, x_procedurePlaces, x_continuationFrames, x_frameTasks, x_frameForms, x_frameValues, x_framePlaces, x_frameNexts, x_arguments, x_outputs, x_itemKinds, x_itemNumbers, x_openLists) (cd_xl T n p) := by
          exact br_t (nI_lt (b := 700) (by omega) (by decide)) ⟨hip, nm_r (cl_L hep) ⟨hip, nm_r (cl_I hep) (xs_tagged (t := 5) (k := np) rfl rfl (by decide) (by omega) (nm_r (nI_1 np) hp))⟩⟩
        have hi2 : vp_in (cd_xl T n p).toInt32 1400 := by rw [hpl]; exact hin
        exact ⟨hi2, nm_e ⟨hi2, nm_e (br_f (by decide) (br_f (by decide) (br_f (by decide) (br_f (by decide) (br_t rfl hmk)))))⟩⟩
      · rw [q5]
        refine ys_sp hR hn hT hpy c1 hbb hk hl (br_f (by decide) (br_f (by decide) (br_t rfl (pk_le k 1 (fun z => by omega) (fun z => ?_)))))
        have hyl : ∀ (Q : Int64 → Prop), Q (cd_yv T n p) → wpY_firstOf Q (y_size, y_pairs, y_open, y_formCount, y_places, nI np, y_continuationCount, nI nf, y_foundCount, y_argumentCount, y_value, zv_c 3 a, y_wherein, y_next, y_working, -1000000003, nI (co + 1), y_made, y_entered, y_printCount, y_itemCount, y_text, y_firsts, y_rests, y_heads, y_lasts, y_globals, y_placeNames, y_placeValues, y_placeNexts, y_procedureForms, y_procedurePlaces, y_continuations, y_whats, y_withs, y_whereins, y_soFars, y_afters, y_found, y_foundNexts, y_arguments, y_prints, y_itemKinds, y_itemNumbers, y_pile) (cd_yl T n p) := by
          intro Q hQ
          rw [hql]
          refine ys_firstOf (by omega) ?_
          rw [e3]
          exact hQ
        exact hyl _ (ys_areNames hR hn hT hpy c1 hbb p1 p2 (ls_CF hl) (fun y => br_f (by decide) ⟨hiq, nm_r (cl_L hep) ⟨hiq, nm_r (cl_I hep) (ys_thing (t := 5) (k := np) rfl rfl (by decide) (by omega) (nm_r (nI_1 np) hp))⟩⟩) (fun y => absurd ⟨s2, s3⟩ y))
    · -- define, set
      have hnx : pz_nx T n p = p + 1 := pz_nx_a (by omega)
      obtain ⟨r1, r2⟩ : p + 1 < n ∧ T (p + 1) ≠ 1 := by
        have := hk.2.2.1
        have := hk.2.2.2.1
        rw [hnx] at *
        exact ⟨by assumption, by assumption⟩
      rw [hnx] at hls e4 e6
      obtain ⟨e1', e2', e3', e4', e5', e6'⟩ := cd_cell c1 hbb r1 r2 hls.2.2 (pz_CL_nD0 hls.2.1)
      have hin' : vp_in (zv_c 2 (pz_AX T n 0 (p + 1))).toInt32 1400 := zv_in (by omega) (by decide)
      have hcl' : (zv_c 2 (pz_AX T n 0 (p + 1))).toInt32.toNatClampNeg = pz_AX T n 0 (p + 1) := zv_cl (by omega)
      rw [cd_xl_p r1 r2] at e6
      rw [cd_yl_p r1 r2] at e4
      have hxn : cd_xv T n p = zv_c 1 (T p) := by
        rw [cd_xv_a (by omega)]
        unfold zv_xA
        rw [if_neg (by omega), if_neg (by omega)]
      have hyn : cd_yv T n p = zv_c 4 (T p) := by
        rw [cd_yv_a (by omega)]
        unfold zv_yA
        rw [if_neg (by omega), if_neg (by omega)]
      rw [hxn] at e5
      rw [hyn] at e3
      have hz : sh_z T 2 p = 1 := if_pos ⟨rfl, s1, s2⟩
      obtain ⟨z, z1, z2, z3⟩ : ∃ z, 2 ≤ z ∧ z < 4 ∧ w = z + 41 := ⟨w - 41, by omega⟩
      have hk9 := rk_push (w := nI z) (ey := y_wherein) (ex := x_environment) (sy := 0) (sx := zv_c 3 0) (f := y_next) hr' he hf2 (Or.inr (Or.inl ⟨z, T p, z1, z2, rfl, s1, s2, rfl, rfl⟩))
      refine ⟨(x_textLength, nI px, x_placeCount, nI np, x_continuationCount, nI (nf + 1), 0, -1, cd_xv T n (p + 1), x_environment, nI nf, x_value, x_applied, x_argumentCount, nI (co + 1), x_consCount, x_entryCount, x_outputCount, x_itemCount, x_text, x_firsts, x_rests, x_placeNames, x_placeValues, x_placeOuters, x_procedureParts, x_procedurePlaces, x_continuationFrames, upd x_frameTasks nf (nI z), vp_updL x_frameForms nf (zv_c 1 (T p)), vp_updL x_frameValues nf (zv_c 3 0), upd x_framePlaces nf x_environment, upd x_frameNexts nf y_next, x_arguments, x_outputs, x_itemKinds, x_itemNumbers, x_openLists),
        (y_size, y_pairs, y_open, y_formCount, y_places, nI np, y_continuationCount, nI (nf + 1), y_foundCount, y_argumentCount, y_value, cd_yv T n (p + 1), y_wherein, nI nf, 1, -1000000003, nI (co + 1), y_made, y_entered, y_printCount, y_itemCount, y_text, y_firsts, y_rests, y_heads, y_lasts, y_globals, y_placeNames, y_placeValues, y_placeNexts, y_procedureForms, y_procedurePlaces, y_continuations, upd y_whats nf (nI z), vp_updL y_withs nf (zv_c 4 (T p)), upd y_whereins nf y_wherein, upd y_soFars nf 0, upd y_afters nf y_next, y_found, y_foundNexts, y_arguments, y_prints, y_itemKinds, y_itemNumbers, y_pile),
        xs_toWord hc hpx q2 q4 (by omega) h2 (fun post hp => ?_), ys_toSpecial hc rfl hpy q1 q3 (by omega) h2 (fun post hp => ?_),
        Or.inr (Or.inl ⟨M, G, px, py, pl, np, nc, nf + 1, fo, cn, et, pc, p + 1, hk9, by omega, rfl, rfl, rfl, rfl, ⟨r1, r2, ls_CF hls⟩, rfl, rfl, he, rfl, Or.inr ⟨nf, by omega, rfl⟩⟩)⟩
      · rw [q6]
        unfold wpX_workOutWord
        refine xs_shape hR hn hT hpx c1 hbb hk hl (by omega) h2 (fun _ => br_f (by decide) ?_) (fun z => absurd hcan z)
        rw [hpl]
        refine ⟨hin, nm_r ((cl_R hcl).trans e5) ⟨hin, nm_r ((cl_R hcl).trans e6) ?_⟩⟩
        rw [zk_xE]
        rcases hw with rfl | rfl
        · have : z = 2 := by omega
          subst this
          refine br_f (by decide) (br_f (by decide) (br_f (by decide) (br_f (by decide) (br_f (by decide) (br_t rfl (xs_push (by omega) ⟨hin', nm_r ((cl_R hcl').trans e5') ?_⟩))))))
          rw [hf]
          exact hp
        · have : z = 3 := by omega
          subst this
          refine br_f (by decide) (br_f (by decide) (br_f (by decide) (br_f (by decide) (br_f (by decide) (br_f (by decide) (br_t rfl (xs_push (by omega) ⟨hin', nm_r ((cl_R hcl').trans e5') ?_⟩)))))))
          rw [hf]
          exact hp
      · rw [q5]
        refine ys_sp hR hn hT hpy c1 hbb hk hl ?_
        rw [hz]
        have h190 : wY_workSpecial_190 post (nI w) (cd_yl T n p) (nI 2) 1 y_size y_pairs y_open y_formCount y_places (nI np) y_continuationCount (nI nf) y_foundCount y_argumentCount y_value (zv_c 3 a) y_wherein y_next y_working (-1000000003) (nI (co + 1)) y_made y_entered y_printCount y_itemCount y_text y_firsts y_rests y_heads y_lasts y_globals y_placeNames y_placeValues y_placeNexts y_procedureForms y_procedurePlaces y_continuations y_whats y_withs y_whereins y_soFars y_afters y_found y_foundNexts y_arguments y_prints y_itemKinds y_itemNumbers y_pile := by
          rw [hql]
          refine br_f (by decide) (ys_firstOf (by omega) ?_)
          have ez : nI w - 41 = nI z := by
            rw [z3]
            have := pk_sub (a := z + 41) (b := 41) (by omega)
            rw [Nat.add_sub_cancel] at this
            exact this
          rw [e3, ez]
          refine ys_later (by omega) (ys_restOf (by omega) ?_)
          rw [e4]
          refine ys_firstOf (by omega) ?_
          rw [e3']
          exact hp
        rcases hw with rfl | rfl
        · exact br_f (by decide) (br_f (by decide) (br_f (by decide) (br_t rfl h190)))
        · exact br_f (by decide) (br_f (by decide) (br_f (by decide) (br_f (by decide) (br_t rfl h190))))
    · -- begin
      obtain ⟨u', v', hX, hY, hF⟩ := sm_all (w := y_wherein) hr' rfl rfl (by omega) he hf hf2 hl p1 p2
      refine ⟨u', v', xs_toWord hc hpx q2 q4 (by omega) h2 (fun post hp => ?_), ys_toSpecial hc rfl hpy q1 q3 (by omega) h2 (fun post hp => ?_), Or.inr (Or.inl hF)⟩
      · rw [q6]
        unfold wpX_workOutWord
        refine xs_shape hR hn hT hpx c1 hbb hk hl (by omega) h2 (fun _ => br_f (by decide) ?_) (fun z => absurd hcan z)
        have hi2 : vp_in (cd_xl T n p).toInt32 1400 := by rw [hpl]; exact hin
        refine ⟨hi2, nm_e ⟨hi2, nm_e (br_f (by decide) (br_t (by decide) (hX _ ?_)))⟩⟩
        obtain ⟨x_textLength, x_pairCount, x_placeCount, x_procedureCount, x_continuationCount, x_frameCount, x_state, x_ending, x_form, x_environment, x_frame, x_value, x_applied, x_argumentCount, x_countedCount, x_consCount, x_entryCount, x_outputCount, x_itemCount, x_text, x_firsts, x_rests, x_placeNames, x_placeValues, x_placeOuters, x_procedureParts, x_procedurePlaces, x_continuationFrames, x_frameTasks, x_frameForms, x_frameValues, x_framePlaces, x_frameNexts, x_arguments, x_outputs, x_itemKinds, x_itemNumbers, x_openLists⟩ := u'
        exact hp
      · rw [q5]
        refine ys_sp hR hn hT hpy c1 hbb hk hl (br_f (by decide) (br_f (by decide) (br_f (by decide) (br_f (by decide) (br_f (by decide) (br_t rfl (br_f (nI_nle (by omega) hkb) (hY _ ?_))))))))
        obtain ⟨y_size, y_pairs, y_open, y_formCount, y_places, y_procedures, y_continuationCount, y_things, y_foundCount, y_argumentCount, y_value, y_form, y_wherein, y_next, y_working, y_ending, y_counts, y_made, y_entered, y_printCount, y_itemCount, y_text, y_firsts, y_rests, y_heads, y_lasts, y_globals, y_placeNames, y_placeValues, y_placeNexts, y_procedureForms, y_procedurePlaces, y_continuations, y_whats, y_withs, y_whereins, y_soFars, y_afters, y_found, y_foundNexts, y_arguments, y_prints, y_itemKinds, y_itemNumbers, y_pile⟩ := v'
        exact hp
  · refine ⟨(x_textLength, nI px, x_placeCount, nI np, x_continuationCount, nI nf, 0, 4, zv_c 2 b, x_environment, x_frame, x_value, x_applied, x_argumentCount, nI (co + 1), x_consCount, x_entryCount, x_outputCount, x_itemCount, x_text, x_firsts, x_rests, x_placeNames, x_placeValues, x_placeOuters, x_procedureParts, x_procedurePlaces, x_continuationFrames, x_frameTasks, x_frameForms, x_frameValues, x_framePlaces, x_frameNexts, x_arguments, x_outputs, x_itemKinds, x_itemNumbers, x_openLists), (y_size, y_pairs, y_open, y_formCount, y_places, nI np, y_continuationCount, nI nf, y_foundCount, y_argumentCount, y_value, zv_c 3 a, y_wherein, y_next, y_working, 4, nI (co + 1), y_made, y_entered, y_printCount, y_itemCount, y_text, y_firsts, y_rests, y_heads, y_lasts, y_globals, y_placeNames, y_placeValues, y_placeNexts, y_procedureForms, y_procedurePlaces, y_continuations, y_whats, y_withs, y_whereins, y_soFars, y_afters, y_found, y_foundNexts, y_arguments, y_prints, y_itemKinds, y_itemNumbers, y_pile),
      xs_toWord hc hpx q2 q4 (by omega) h2 (fun post hp => ?_), ys_toSpecial hc rfl hpy q1 q3 (by omega) h2 (fun post hp => ?_), Or.inl (sm_E_R (e := 4) hr' (by decide) (by decide))⟩
    · rw [q6]
      unfold wpX_workOutWord
      exact xs_shape hR hn hT hpx c1 hbb hk hl (by omega) h2 (fun z => absurd z sh) (fun _ => br_t rfl hp)
    · rw [q5]
      exact yw_syn hR hn hT hpy c1 hbb hk hl (by omega) h2 sh hp
end
