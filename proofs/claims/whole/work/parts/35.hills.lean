
theorem fails_ok {x1 x2 r f : Int32} (hu : S_X7_fails x1 x2 = (r, f)) : r = x1 := by unfold S_X7_fails at hu; cases hu; rfl
set_option maxHeartbeats 4000000 in
theorem takeClause_ok {o_texted : Nat} {o_faultPlace : Int32} {o_at0 : Nat} {o_number : Int32} {o_numberAt : Nat} {o_readYear : Int32} {o_readClauses : Int32} {o_readBridges : Nat} {o_readMen : Nat} {o_readMany : Int32} {o_readOxen : Nat} {o_text : Nat → Int32} {o_readOx : Nat → Int32} {o_readPrice : Nat → Int32} {o_readKnows : Nat → Int32} {o_readWeight : Nat → Int32} {o_readComes : Nat → Int32} {o_readForgets : Nat → Int32} {c0 : Int32} {c1 : Nat} {c2 : Int64} {c3 : Nat} {c4 : Int32} {c5 : Int32} {c6 : Nat} {c7 : Nat} {c8 : Int32} {c9 : Nat → Int32} {c10 : Nat → Int32} {c11 : Int32} {c12 : Nat → Int32} {c13 : Nat} {c14 : Nat → Int32} {c15 : Nat → Int32} {c16 : Nat} {c17 : Nat → Int32} {c18 : Int32} (hu : S_X7_takeClause o_texted o_faultPlace o_at0 o_number o_numberAt o_readYear o_readClauses o_readBridges o_readMen o_readMany o_readOxen o_text o_readOx o_readPrice o_readKnows o_readWeight o_readComes o_readForgets = (c0, c1, c2, c3, c4, c5, c6, c7, c8, c9, c10, c11, c12, c13, c14, c15, c16, c17, c18)) (hlen : o_texted ≤ 500) (hat : o_at0 ≤ o_texted) (hqb : o_readBridges ≤ 5) (hmen : o_readMen ≤ 6) (hqo : o_readOxen ≤ 5) : (c0 = 0 → o_at0 < c1 ∧ c1 ≤ o_texted) ∧ c16 ≤ 5 ∧ c13 ≤ 6 ∧ c6 ≤ 5 := by
  unfold S_X7_takeClause at hu
  generalize hu_1 : (S_X7_readWord o_texted o_at0 o_text) = u_1 at hu
  obtain ⟨r1_o_at0, r1_o_said, r1_o_wordEnd⟩ := u_1
  obtain ⟨hpa_1, hpb_1, hpc_1⟩ := readWord_ok hu_1 (by omega)
  have hu : K_X7_takeClause_1 o_texted o_faultPlace o_number o_numberAt o_readYear o_readClauses o_readBridges o_readMen o_readMany o_readOxen o_text o_readOx o_readPrice o_readKnows o_readWeight o_readComes o_readForgets r1_o_at0 r1_o_said r1_o_wordEnd = _ := hu
  unfold K_X7_takeClause_1 at hu
  by_cases c_1 : (lg_cmp r1_o_said (S_X7_more (S_X7_code (121 : Int32) (101 : Int32) (97 : Int32)) (114 : Int32))) = 0
  · rw [if_pos c_1] at hu
    by_cases c_18 : o_readClauses ≤ 0
    · rw [if_pos c_18] at hu
      by_cases c_19 : o_readYear ≤ 0
      · rw [if_pos c_19] at hu
        generalize hu_319 : (S_X7_takeYear o_texted o_faultPlace r1_o_wordEnd o_number o_numberAt o_text) = u_319 at hu
        obtain ⟨r319_r, r319_o_at0, r319_o_numberAt, r319_o_number, r319_o_faultPlace, r319_o_readYear⟩ := u_319
        obtain ⟨hpa_319, hpb_319⟩ := takeYear_ok hu_319 (by omega)
        have hu : K_X7_takeClause_319 o_texted o_readClauses o_readBridges o_readMen o_readMany o_readOxen o_text r1_o_said r1_o_wordEnd o_readOx o_readPrice o_readKnows o_readWeight o_readComes o_readForgets r319_r r319_o_at0 r319_o_numberAt r319_o_number r319_o_faultPlace r319_o_readYear = _ := hu
        unfold K_X7_takeClause_319 at hu
        by_cases c_20 : r319_r = 0
        · rw [if_pos c_20] at hu
          generalize hu_373 : (S_X7_here o_texted o_text r319_o_at0) = u_373 at hu
          obtain ⟨r373_r, r373_o_at0⟩ := u_373
          obtain ⟨hpa_373, hpb_373⟩ := here_ok hu_373 (by omega)
          have hu : K_X7_takeClause_373_4 o_readClauses o_readBridges o_readMen o_readMany o_readOxen r1_o_said r1_o_wordEnd o_readOx o_readPrice o_readKnows o_readWeight o_readComes o_readForgets r319_r r319_o_numberAt r319_o_number r319_o_faultPlace r319_o_readYear r373_r r373_o_at0 = _ := hu
          unfold K_X7_takeClause_373_4 at hu
          by_cases c_21 : r373_r = (59 : Int32)
          · rw [if_pos c_21] at hu
            have hlt := (here_lt hu_373 (fun z => absurd (z.symm.trans c_21) (by decide))).1
            cases hu
            refine ⟨?_, by omega, by omega, by omega⟩; first | exact fun z => absurd z (by assumption) | exact fun _ => ⟨by omega, hlt⟩ | exact fun z => absurd (z.symm.trans (fails_ok hu_387)) (by decide) | exact fun z => absurd (z.symm.trans (fails_ok hu_284)) (by decide) | exact fun z => absurd (z.symm.trans (fails_ok hu_172)) (by decide)
          · rw [if_neg c_21] at hu
            generalize hu_387 : (S_X7_fails (1 : Int32) (nI r373_o_at0)) = u_387 at hu
            obtain ⟨r387_r, r387_o_faultPlace⟩ := u_387
            have hu : K_X7_takeClause_387_4 o_readClauses o_readBridges o_readMen o_readMany o_readOxen r1_o_said r1_o_wordEnd o_readOx o_readPrice r373_o_at0 o_readKnows o_readWeight o_readComes o_readForgets r319_o_numberAt r319_o_number r319_o_readYear r387_r r387_o_faultPlace = _ := hu
            unfold K_X7_takeClause_387_4 at hu
            cases hu
            refine ⟨?_, by omega, by omega, by omega⟩; first | exact fun z => absurd z (by assumption) | exact fun _ => ⟨by omega, hlt⟩ | exact fun z => absurd (z.symm.trans (fails_ok hu_387)) (by decide) | exact fun z => absurd (z.symm.trans (fails_ok hu_284)) (by decide) | exact fun z => absurd (z.symm.trans (fails_ok hu_172)) (by decide)
        · rw [if_neg c_20] at hu
          cases hu
          refine ⟨?_, by omega, by omega, by omega⟩; first | exact fun z => absurd z (by assumption) | exact fun _ => ⟨by omega, hlt⟩ | exact fun z => absurd (z.symm.trans (fails_ok hu_387)) (by decide) | exact fun z => absurd (z.symm.trans (fails_ok hu_284)) (by decide) | exact fun z => absurd (z.symm.trans (fails_ok hu_172)) (by decide)
      · rw [if_neg c_19] at hu
        generalize hu_284 : (S_X7_fails (3 : Int32) (nI r1_o_at0)) = u_284 at hu
        obtain ⟨r284_r, r284_o_faultPlace⟩ := u_284
        have hu : K_X7_takeClause_284 o_number o_numberAt o_readYear o_readClauses o_readBridges o_readMen o_readMany o_readOxen r1_o_at0 r1_o_said r1_o_wordEnd o_readOx o_readPrice o_readKnows o_readWeight o_readComes o_readForgets r284_r r284_o_faultPlace = _ := hu
        unfold K_X7_takeClause_284 at hu
        cases hu
        refine ⟨?_, by omega, by omega, by omega⟩; first | exact fun z => absurd z (by assumption) | exact fun _ => ⟨by omega, hlt⟩ | exact fun z => absurd (z.symm.trans (fails_ok hu_387)) (by decide) | exact fun z => absurd (z.symm.trans (fails_ok hu_284)) (by decide) | exact fun z => absurd (z.symm.trans (fails_ok hu_172)) (by decide)
    · rw [if_neg c_18] at hu
      generalize hu_172 : (S_X7_fails (1 : Int32) (nI r1_o_at0)) = u_172 at hu
      obtain ⟨r172_r, r172_o_faultPlace⟩ := u_172
      have hu : K_X7_takeClause_172 o_number o_numberAt o_readYear o_readClauses o_readBridges o_readMen o_readMany o_readOxen r1_o_at0 r1_o_said r1_o_wordEnd o_readOx o_readPrice o_readKnows o_readWeight o_readComes o_readForgets r172_r r172_o_faultPlace = _ := hu
      unfold K_X7_takeClause_172 at hu
      cases hu
      refine ⟨?_, by omega, by omega, by omega⟩; first | exact fun z => absurd z (by assumption) | exact fun _ => ⟨by omega, hlt⟩ | exact fun z => absurd (z.symm.trans (fails_ok hu_387)) (by decide) | exact fun z => absurd (z.symm.trans (fails_ok hu_284)) (by decide) | exact fun z => absurd (z.symm.trans (fails_ok hu_172)) (by decide)
  · rw [if_neg c_1] at hu
    by_cases c_2 : (lg_cmp r1_o_said (S_X7_more (S_X7_more (S_X7_more (S_X7_code (98 : Int32) (114 : Int32) (105 : Int32)) (100 : Int32)) (103 : Int32)) (101 : Int32))) = 0
    · rw [if_pos c_2] at hu
      by_cases c_15 : o_readBridges = 5
      · rw [if_pos c_15] at hu
        generalize hu_284 : (S_X7_fails (3 : Int32) (nI r1_o_at0)) = u_284 at hu
        obtain ⟨r284_r, r284_o_faultPlace⟩ := u_284
        have hu : K_X7_takeClause_284 o_number o_numberAt o_readYear o_readClauses o_readBridges o_readMen o_readMany o_readOxen r1_o_at0 r1_o_said r1_o_wordEnd o_readOx o_readPrice o_readKnows o_readWeight o_readComes o_readForgets r284_r r284_o_faultPlace = _ := hu
        unfold K_X7_takeClause_284 at hu
        cases hu
        refine ⟨?_, by omega, by omega, by omega⟩; first | exact fun z => absurd z (by assumption) | exact fun _ => ⟨by omega, hlt⟩ | exact fun z => absurd (z.symm.trans (fails_ok hu_387)) (by decide) | exact fun z => absurd (z.symm.trans (fails_ok hu_284)) (by decide) | exact fun z => absurd (z.symm.trans (fails_ok hu_172)) (by decide)
      · rw [if_neg c_15] at hu
        generalize hu_331 : (S_X7_takeBridge o_readBridges o_texted o_faultPlace r1_o_wordEnd o_number o_numberAt o_text o_readForgets) = u_331 at hu
        obtain ⟨r331_r, r331_o_readBridges, r331_o_at0, r331_o_numberAt, r331_o_number, r331_o_faultPlace, r331_o_readForgets⟩ := u_331
        obtain ⟨hpa_331, hpb_331, hpc_331⟩ := takeBridge_ok hu_331 (by omega)
        have hu : K_X7_takeClause_331 o_texted o_readYear o_readClauses o_readMen o_readMany o_readOxen o_text r1_o_said r1_o_wordEnd o_readOx o_readPrice o_readKnows o_readWeight o_readComes r331_r r331_o_readBridges r331_o_at0 r331_o_numberAt r331_o_number r331_o_faultPlace r331_o_readForgets = _ := hu
        unfold K_X7_takeClause_331 at hu
        by_cases c_16 : r331_r = 0
        · rw [if_pos c_16] at hu
          generalize hu_373 : (S_X7_here o_texted o_text r331_o_at0) = u_373 at hu
          obtain ⟨r373_r, r373_o_at0⟩ := u_373
          obtain ⟨hpa_373, hpb_373⟩ := here_ok hu_373 (by omega)
          have hu : K_X7_takeClause_373_3 o_readYear o_readClauses o_readMen o_readMany o_readOxen r1_o_said r1_o_wordEnd o_readOx o_readPrice o_readKnows o_readWeight o_readComes r331_r r331_o_readBridges r331_o_numberAt r331_o_number r331_o_faultPlace r331_o_readForgets r373_r r373_o_at0 = _ := hu
          unfold K_X7_takeClause_373_3 at hu
          by_cases c_17 : r373_r = (59 : Int32)
          · rw [if_pos c_17] at hu
            have hlt := (here_lt hu_373 (fun z => absurd (z.symm.trans c_17) (by decide))).1
            cases hu
            refine ⟨?_, by omega, by omega, by omega⟩; first | exact fun z => absurd z (by assumption) | exact fun _ => ⟨by omega, hlt⟩ | exact fun z => absurd (z.symm.trans (fails_ok hu_387)) (by decide) | exact fun z => absurd (z.symm.trans (fails_ok hu_284)) (by decide) | exact fun z => absurd (z.symm.trans (fails_ok hu_172)) (by decide)
          · rw [if_neg c_17] at hu
            generalize hu_387 : (S_X7_fails (1 : Int32) (nI r373_o_at0)) = u_387 at hu
            obtain ⟨r387_r, r387_o_faultPlace⟩ := u_387
            have hu : K_X7_takeClause_387_3 o_readYear o_readClauses o_readMen o_readMany o_readOxen r1_o_said r1_o_wordEnd o_readOx o_readPrice r373_o_at0 o_readKnows o_readWeight o_readComes r331_o_readBridges r331_o_numberAt r331_o_number r331_o_readForgets r387_r r387_o_faultPlace = _ := hu
            unfold K_X7_takeClause_387_3 at hu
            cases hu
            refine ⟨?_, by omega, by omega, by omega⟩; first | exact fun z => absurd z (by assumption) | exact fun _ => ⟨by omega, hlt⟩ | exact fun z => absurd (z.symm.trans (fails_ok hu_387)) (by decide) | exact fun z => absurd (z.symm.trans (fails_ok hu_284)) (by decide) | exact fun z => absurd (z.symm.trans (fails_ok hu_172)) (by decide)
        · rw [if_neg c_16] at hu
          cases hu
          refine ⟨?_, by omega, by omega, by omega⟩; first | exact fun z => absurd z (by assumption) | exact fun _ => ⟨by omega, hlt⟩ | exact fun z => absurd (z.symm.trans (fails_ok hu_387)) (by decide) | exact fun z => absurd (z.symm.trans (fails_ok hu_284)) (by decide) | exact fun z => absurd (z.symm.trans (fails_ok hu_172)) (by decide)
    · rw [if_neg c_2] at hu
      by_cases c_3 : (lg_cmp r1_o_said (S_X7_code (109 : Int32) (97 : Int32) (110 : Int32))) = 0
      · rw [if_pos c_3] at hu
        by_cases c_12 : o_readMen = 6
        · rw [if_pos c_12] at hu
          generalize hu_284 : (S_X7_fails (3 : Int32) (nI r1_o_at0)) = u_284 at hu
          obtain ⟨r284_r, r284_o_faultPlace⟩ := u_284
          have hu : K_X7_takeClause_284 o_number o_numberAt o_readYear o_readClauses o_readBridges o_readMen o_readMany o_readOxen r1_o_at0 r1_o_said r1_o_wordEnd o_readOx o_readPrice o_readKnows o_readWeight o_readComes o_readForgets r284_r r284_o_faultPlace = _ := hu
          unfold K_X7_takeClause_284 at hu
          cases hu
          refine ⟨?_, by omega, by omega, by omega⟩; first | exact fun z => absurd z (by assumption) | exact fun _ => ⟨by omega, hlt⟩ | exact fun z => absurd (z.symm.trans (fails_ok hu_387)) (by decide) | exact fun z => absurd (z.symm.trans (fails_ok hu_284)) (by decide) | exact fun z => absurd (z.symm.trans (fails_ok hu_172)) (by decide)
        · rw [if_neg c_12] at hu
          generalize hu_343 : (S_X7_takeMan o_readMen o_texted o_faultPlace r1_o_wordEnd o_number o_numberAt o_readKnows o_text o_readWeight o_readComes) = u_343 at hu
          obtain ⟨r343_r, r343_o_readMen, r343_o_readKnows, r343_o_at0, r343_o_numberAt, r343_o_number, r343_o_faultPlace, r343_o_readWeight, r343_o_readComes⟩ := u_343
          obtain ⟨hpa_343, hpb_343, hpc_343⟩ := takeMan_ok hu_343 (by omega)
          have hu : K_X7_takeClause_343 o_texted o_readYear o_readClauses o_readBridges o_readMany o_readOxen o_text r1_o_said r1_o_wordEnd o_readOx o_readPrice o_readForgets r343_r r343_o_readMen r343_o_readKnows r343_o_at0 r343_o_numberAt r343_o_number r343_o_faultPlace r343_o_readWeight r343_o_readComes = _ := hu
          unfold K_X7_takeClause_343 at hu
          by_cases c_13 : r343_r = 0
          · rw [if_pos c_13] at hu
            generalize hu_373 : (S_X7_here o_texted o_text r343_o_at0) = u_373 at hu
            obtain ⟨r373_r, r373_o_at0⟩ := u_373
            obtain ⟨hpa_373, hpb_373⟩ := here_ok hu_373 (by omega)
            have hu : K_X7_takeClause_373_2 o_readYear o_readClauses o_readBridges o_readMany o_readOxen r1_o_said r1_o_wordEnd o_readOx o_readPrice r343_r r343_o_readMen r343_o_readKnows r343_o_numberAt r343_o_number r343_o_faultPlace r343_o_readWeight r343_o_readComes o_readForgets r373_r r373_o_at0 = _ := hu
            unfold K_X7_takeClause_373_2 at hu
            by_cases c_14 : r373_r = (59 : Int32)
            · rw [if_pos c_14] at hu
              have hlt := (here_lt hu_373 (fun z => absurd (z.symm.trans c_14) (by decide))).1
              cases hu
              refine ⟨?_, by omega, by omega, by omega⟩; first | exact fun z => absurd z (by assumption) | exact fun _ => ⟨by omega, hlt⟩ | exact fun z => absurd (z.symm.trans (fails_ok hu_387)) (by decide) | exact fun z => absurd (z.symm.trans (fails_ok hu_284)) (by decide) | exact fun z => absurd (z.symm.trans (fails_ok hu_172)) (by decide)
            · rw [if_neg c_14] at hu
              generalize hu_387 : (S_X7_fails (1 : Int32) (nI r373_o_at0)) = u_387 at hu
              obtain ⟨r387_r, r387_o_faultPlace⟩ := u_387
              have hu : K_X7_takeClause_387_2 o_readYear o_readClauses o_readBridges o_readMany o_readOxen r1_o_said r1_o_wordEnd o_readOx o_readPrice r373_o_at0 r343_o_readMen r343_o_readKnows r343_o_numberAt r343_o_number r343_o_readWeight r343_o_readComes o_readForgets r387_r r387_o_faultPlace = _ := hu
              unfold K_X7_takeClause_387_2 at hu
              cases hu
              refine ⟨?_, by omega, by omega, by omega⟩; first | exact fun z => absurd z (by assumption) | exact fun _ => ⟨by omega, hlt⟩ | exact fun z => absurd (z.symm.trans (fails_ok hu_387)) (by decide) | exact fun z => absurd (z.symm.trans (fails_ok hu_284)) (by decide) | exact fun z => absurd (z.symm.trans (fails_ok hu_172)) (by decide)
          · rw [if_neg c_13] at hu
            cases hu
            refine ⟨?_, by omega, by omega, by omega⟩; first | exact fun z => absurd z (by assumption) | exact fun _ => ⟨by omega, hlt⟩ | exact fun z => absurd (z.symm.trans (fails_ok hu_387)) (by decide) | exact fun z => absurd (z.symm.trans (fails_ok hu_284)) (by decide) | exact fun z => absurd (z.symm.trans (fails_ok hu_172)) (by decide)
      · rw [if_neg c_3] at hu
        by_cases c_4 : (lg_cmp r1_o_said (S_X7_more (S_X7_more (S_X7_code (107 : Int32) (110 : Int32) (111 : Int32)) (119 : Int32)) (115 : Int32))) = 0
        · rw [if_pos c_4] at hu
          by_cases c_9 : o_readMany = (12 : Int32)
          · rw [if_pos c_9] at hu
            generalize hu_284 : (S_X7_fails (3 : Int32) (nI r1_o_at0)) = u_284 at hu
            obtain ⟨r284_r, r284_o_faultPlace⟩ := u_284
            have hu : K_X7_takeClause_284 o_number o_numberAt o_readYear o_readClauses o_readBridges o_readMen o_readMany o_readOxen r1_o_at0 r1_o_said r1_o_wordEnd o_readOx o_readPrice o_readKnows o_readWeight o_readComes o_readForgets r284_r r284_o_faultPlace = _ := hu
            unfold K_X7_takeClause_284 at hu
            cases hu
            refine ⟨?_, by omega, by omega, by omega⟩; first | exact fun z => absurd z (by assumption) | exact fun _ => ⟨by omega, hlt⟩ | exact fun z => absurd (z.symm.trans (fails_ok hu_387)) (by decide) | exact fun z => absurd (z.symm.trans (fails_ok hu_284)) (by decide) | exact fun z => absurd (z.symm.trans (fails_ok hu_172)) (by decide)
          · rw [if_neg c_9] at hu
            generalize hu_355 : (S_X7_takeKnows o_readMany o_texted o_faultPlace r1_o_wordEnd o_number o_numberAt o_readMen o_text o_readKnows) = u_355 at hu
            obtain ⟨r355_r, r355_o_readMany, r355_o_at0, r355_o_numberAt, r355_o_number, r355_o_faultPlace, r355_o_readKnows⟩ := u_355
            obtain ⟨hpa_355, hpb_355⟩ := takeKnows_ok hu_355 (by omega)
            have hu : K_X7_takeClause_355 o_texted o_readYear o_readClauses o_readBridges o_readMen o_readOxen o_text r1_o_said r1_o_wordEnd o_readOx o_readPrice o_readWeight o_readComes o_readForgets r355_r r355_o_readMany r355_o_at0 r355_o_numberAt r355_o_number r355_o_faultPlace r355_o_readKnows = _ := hu
            unfold K_X7_takeClause_355 at hu
            by_cases c_10 : r355_r = 0
            · rw [if_pos c_10] at hu
              generalize hu_373 : (S_X7_here o_texted o_text r355_o_at0) = u_373 at hu
              obtain ⟨r373_r, r373_o_at0⟩ := u_373
              obtain ⟨hpa_373, hpb_373⟩ := here_ok hu_373 (by omega)
              have hu : K_X7_takeClause_373_1 o_readYear o_readClauses o_readBridges o_readMen o_readOxen r1_o_said r1_o_wordEnd o_readOx o_readPrice r355_r r355_o_readMany r355_o_numberAt r355_o_number r355_o_faultPlace r355_o_readKnows o_readWeight o_readComes o_readForgets r373_r r373_o_at0 = _ := hu
              unfold K_X7_takeClause_373_1 at hu
              by_cases c_11 : r373_r = (59 : Int32)
              · rw [if_pos c_11] at hu
                have hlt := (here_lt hu_373 (fun z => absurd (z.symm.trans c_11) (by decide))).1
                cases hu
                refine ⟨?_, by omega, by omega, by omega⟩; first | exact fun z => absurd z (by assumption) | exact fun _ => ⟨by omega, hlt⟩ | exact fun z => absurd (z.symm.trans (fails_ok hu_387)) (by decide) | exact fun z => absurd (z.symm.trans (fails_ok hu_284)) (by decide) | exact fun z => absurd (z.symm.trans (fails_ok hu_172)) (by decide)
              · rw [if_neg c_11] at hu
                generalize hu_387 : (S_X7_fails (1 : Int32) (nI r373_o_at0)) = u_387 at hu
                obtain ⟨r387_r, r387_o_faultPlace⟩ := u_387
                have hu : K_X7_takeClause_387_1 o_readYear o_readClauses o_readBridges o_readMen o_readOxen r1_o_said r1_o_wordEnd o_readOx o_readPrice r373_o_at0 r355_o_readMany r355_o_numberAt r355_o_number r355_o_readKnows o_readWeight o_readComes o_readForgets r387_r r387_o_faultPlace = _ := hu
                unfold K_X7_takeClause_387_1 at hu
                cases hu
                refine ⟨?_, by omega, by omega, by omega⟩; first | exact fun z => absurd z (by assumption) | exact fun _ => ⟨by omega, hlt⟩ | exact fun z => absurd (z.symm.trans (fails_ok hu_387)) (by decide) | exact fun z => absurd (z.symm.trans (fails_ok hu_284)) (by decide) | exact fun z => absurd (z.symm.trans (fails_ok hu_172)) (by decide)
            · rw [if_neg c_10] at hu
              cases hu
              refine ⟨?_, by omega, by omega, by omega⟩; first | exact fun z => absurd z (by assumption) | exact fun _ => ⟨by omega, hlt⟩ | exact fun z => absurd (z.symm.trans (fails_ok hu_387)) (by decide) | exact fun z => absurd (z.symm.trans (fails_ok hu_284)) (by decide) | exact fun z => absurd (z.symm.trans (fails_ok hu_172)) (by decide)
        · rw [if_neg c_4] at hu
          by_cases c_5 : (lg_cmp r1_o_said (S_X7_code (96 : Int32) (111 : Int32) (120 : Int32))) = 0
          · rw [if_pos c_5] at hu
            by_cases c_6 : o_readOxen = 5
            · rw [if_pos c_6] at hu
              generalize hu_284 : (S_X7_fails (3 : Int32) (nI r1_o_at0)) = u_284 at hu
              obtain ⟨r284_r, r284_o_faultPlace⟩ := u_284
              have hu : K_X7_takeClause_284 o_number o_numberAt o_readYear o_readClauses o_readBridges o_readMen o_readMany o_readOxen r1_o_at0 r1_o_said r1_o_wordEnd o_readOx o_readPrice o_readKnows o_readWeight o_readComes o_readForgets r284_r r284_o_faultPlace = _ := hu
              unfold K_X7_takeClause_284 at hu
              cases hu
              refine ⟨?_, by omega, by omega, by omega⟩; first | exact fun z => absurd z (by assumption) | exact fun _ => ⟨by omega, hlt⟩ | exact fun z => absurd (z.symm.trans (fails_ok hu_387)) (by decide) | exact fun z => absurd (z.symm.trans (fails_ok hu_284)) (by decide) | exact fun z => absurd (z.symm.trans (fails_ok hu_172)) (by decide)
            · rw [if_neg c_6] at hu
              generalize hu_362 : (S_X7_takeOx o_readOxen o_texted o_faultPlace r1_o_wordEnd o_number o_numberAt o_text o_readOx o_readPrice) = u_362 at hu
              obtain ⟨r362_r, r362_o_readOxen, r362_o_at0, r362_o_numberAt, r362_o_number, r362_o_faultPlace, r362_o_readOx, r362_o_readPrice⟩ := u_362
              obtain ⟨hpa_362, hpb_362, hpc_362⟩ := takeOx_ok hu_362 (by omega)
              have hu : K_X7_takeClause_362 o_texted o_readYear o_readClauses o_readBridges o_readMen o_readMany o_text r1_o_said r1_o_wordEnd o_readKnows o_readWeight o_readComes o_readForgets r362_r r362_o_readOxen r362_o_at0 r362_o_numberAt r362_o_number r362_o_faultPlace r362_o_readOx r362_o_readPrice = _ := hu
              unfold K_X7_takeClause_362 at hu
              by_cases c_7 : r362_r = 0
              · rw [if_pos c_7] at hu
                generalize hu_373 : (S_X7_here o_texted o_text r362_o_at0) = u_373 at hu
                obtain ⟨r373_r, r373_o_at0⟩ := u_373
                obtain ⟨hpa_373, hpb_373⟩ := here_ok hu_373 (by omega)
                have hu : K_X7_takeClause_373 o_readYear o_readClauses o_readBridges o_readMen o_readMany r1_o_said r1_o_wordEnd r362_r r362_o_readOxen r362_o_numberAt r362_o_number r362_o_faultPlace r362_o_readOx r362_o_readPrice o_readKnows o_readWeight o_readComes o_readForgets r373_r r373_o_at0 = _ := hu
                unfold K_X7_takeClause_373 at hu
                by_cases c_8 : r373_r = (59 : Int32)
                · rw [if_pos c_8] at hu
                  have hlt := (here_lt hu_373 (fun z => absurd (z.symm.trans c_8) (by decide))).1
                  cases hu
                  refine ⟨?_, by omega, by omega, by omega⟩; first | exact fun z => absurd z (by assumption) | exact fun _ => ⟨by omega, hlt⟩ | exact fun z => absurd (z.symm.trans (fails_ok hu_387)) (by decide) | exact fun z => absurd (z.symm.trans (fails_ok hu_284)) (by decide) | exact fun z => absurd (z.symm.trans (fails_ok hu_172)) (by decide)
                · rw [if_neg c_8] at hu
                  generalize hu_387 : (S_X7_fails (1 : Int32) (nI r373_o_at0)) = u_387 at hu
                  obtain ⟨r387_r, r387_o_faultPlace⟩ := u_387
                  have hu : K_X7_takeClause_387 o_readYear o_readClauses o_readBridges o_readMen o_readMany r1_o_said r1_o_wordEnd r362_o_readOxen r362_o_numberAt r362_o_number r362_o_readOx r362_o_readPrice r373_o_at0 o_readKnows o_readWeight o_readComes o_readForgets r387_r r387_o_faultPlace = _ := hu
                  unfold K_X7_takeClause_387 at hu
                  cases hu
                  refine ⟨?_, by omega, by omega, by omega⟩; first | exact fun z => absurd z (by assumption) | exact fun _ => ⟨by omega, hlt⟩ | exact fun z => absurd (z.symm.trans (fails_ok hu_387)) (by decide) | exact fun z => absurd (z.symm.trans (fails_ok hu_284)) (by decide) | exact fun z => absurd (z.symm.trans (fails_ok hu_172)) (by decide)
              · rw [if_neg c_7] at hu
                cases hu
                refine ⟨?_, by omega, by omega, by omega⟩; first | exact fun z => absurd z (by assumption) | exact fun _ => ⟨by omega, hlt⟩ | exact fun z => absurd (z.symm.trans (fails_ok hu_387)) (by decide) | exact fun z => absurd (z.symm.trans (fails_ok hu_284)) (by decide) | exact fun z => absurd (z.symm.trans (fails_ok hu_172)) (by decide)
          · rw [if_neg c_5] at hu
            generalize hu_172 : (S_X7_fails (1 : Int32) (nI r1_o_at0)) = u_172 at hu
            obtain ⟨r172_r, r172_o_faultPlace⟩ := u_172
            have hu : K_X7_takeClause_172 o_number o_numberAt o_readYear o_readClauses o_readBridges o_readMen o_readMany o_readOxen r1_o_at0 r1_o_said r1_o_wordEnd o_readOx o_readPrice o_readKnows o_readWeight o_readComes o_readForgets r172_r r172_o_faultPlace = _ := hu
            unfold K_X7_takeClause_172 at hu
            cases hu
            refine ⟨?_, by omega, by omega, by omega⟩; first | exact fun z => absurd z (by assumption) | exact fun _ => ⟨by omega, hlt⟩ | exact fun z => absurd (z.symm.trans (fails_ok hu_387)) (by decide) | exact fun z => absurd (z.symm.trans (fails_ok hu_284)) (by decide) | exact fun z => absurd (z.symm.trans (fails_ok hu_172)) (by decide)
