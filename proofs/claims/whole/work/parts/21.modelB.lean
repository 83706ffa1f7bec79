/-! Walks of methods, by program (wip/whole/gen). -/
theorem d_X7_about_0 : decode prog_9_method_45_code 0 = .ok (.aload_n 0, 1) := by decide +kernel
theorem d_X7_about_1 : decode prog_9_method_45_code 1 = .ok (.aload_n 0, 1) := by decide +kernel
theorem d_X7_about_2 : decode prog_9_method_45_code 2 = .ok (.getfield 16, 3) := by decide +kernel
theorem d_X7_about_5 : decode prog_9_method_45_code 5 = .ok (.aload_n 0, 1) := by decide +kernel
theorem d_X7_about_6 : decode prog_9_method_45_code 6 = .ok (.invokevirtual 159, 3) := by decide +kernel
theorem d_X7_about_9 : decode prog_9_method_45_code 9 = .ok (.invokevirtual 162, 3) := by decide +kernel
theorem d_X7_about_12 : decode prog_9_method_45_code 12 = .ok (.iload_n 1, 1) := by decide +kernel
theorem d_X7_about_13 : decode prog_9_method_45_code 13 = .ok (.tableswitch 141 0 10 #[59, 64, 69, 78, 86, 95, 104, 121, 126, 131, 136], 59) := by decide +kernel
theorem d_X7_about_72 : decode prog_9_method_45_code 72 = .ok (.aload_n 0, 1) := by decide +kernel
theorem d_X7_about_73 : decode prog_9_method_45_code 73 = .ok (.getfield 72, 3) := by decide +kernel
theorem d_X7_about_76 : decode prog_9_method_45_code 76 = .ok (.ireturn, 1) := by decide +kernel
theorem d_X7_about_77 : decode prog_9_method_45_code 77 = .ok (.aload_n 0, 1) := by decide +kernel
theorem d_X7_about_78 : decode prog_9_method_45_code 78 = .ok (.invokevirtual 197, 3) := by decide +kernel
theorem d_X7_about_81 : decode prog_9_method_45_code 81 = .ok (.ireturn, 1) := by decide +kernel
theorem d_X7_about_82 : decode prog_9_method_45_code 82 = .ok (.aload_n 0, 1) := by decide +kernel
theorem d_X7_about_83 : decode prog_9_method_45_code 83 = .ok (.aload_n 0, 1) := by decide +kernel
theorem d_X7_about_84 : decode prog_9_method_45_code 84 = .ok (.getfield 16, 3) := by decide +kernel
theorem d_X7_about_87 : decode prog_9_method_45_code 87 = .ok (.invokevirtual 200, 3) := by decide +kernel
theorem d_X7_about_90 : decode prog_9_method_45_code 90 = .ok (.ireturn, 1) := by decide +kernel
theorem d_X7_about_91 : decode prog_9_method_45_code 91 = .ok (.aload_n 0, 1) := by decide +kernel
theorem d_X7_about_92 : decode prog_9_method_45_code 92 = .ok (.getfield 16, 3) := by decide +kernel
theorem d_X7_about_95 : decode prog_9_method_45_code 95 = .ok (.bipush 24, 2) := by decide +kernel
theorem d_X7_about_97 : decode prog_9_method_45_code 97 = .ok (.iaload, 1) := by decide +kernel
theorem d_X7_about_98 : decode prog_9_method_45_code 98 = .ok (.ireturn, 1) := by decide +kernel
theorem d_X7_about_99 : decode prog_9_method_45_code 99 = .ok (.aload_n 0, 1) := by decide +kernel
theorem d_X7_about_100 : decode prog_9_method_45_code 100 = .ok (.aload_n 0, 1) := by decide +kernel
theorem d_X7_about_101 : decode prog_9_method_45_code 101 = .ok (.getfield 16, 3) := by decide +kernel
theorem d_X7_about_104 : decode prog_9_method_45_code 104 = .ok (.invokevirtual 166, 3) := by decide +kernel
theorem d_X7_about_107 : decode prog_9_method_45_code 107 = .ok (.ireturn, 1) := by decide +kernel
theorem d_X7_about_108 : decode prog_9_method_45_code 108 = .ok (.aload_n 0, 1) := by decide +kernel
theorem d_X7_about_109 : decode prog_9_method_45_code 109 = .ok (.aload_n 0, 1) := by decide +kernel
theorem d_X7_about_110 : decode prog_9_method_45_code 110 = .ok (.getfield 16, 3) := by decide +kernel
theorem d_X7_about_113 : decode prog_9_method_45_code 113 = .ok (.invokevirtual 203, 3) := by decide +kernel
theorem d_X7_about_116 : decode prog_9_method_45_code 116 = .ok (.ireturn, 1) := by decide +kernel
theorem d_X7_about_117 : decode prog_9_method_45_code 117 = .ok (.aload_n 0, 1) := by decide +kernel
theorem d_X7_about_118 : decode prog_9_method_45_code 118 = .ok (.aload_n 0, 1) := by decide +kernel
theorem d_X7_about_119 : decode prog_9_method_45_code 119 = .ok (.getfield 16, 3) := by decide +kernel
theorem d_X7_about_122 : decode prog_9_method_45_code 122 = .ok (.invokevirtual 184, 3) := by decide +kernel
theorem d_X7_about_125 : decode prog_9_method_45_code 125 = .ok (.ifCond .eq 7, 3) := by decide +kernel
theorem d_X7_about_128 : decode prog_9_method_45_code 128 = .ok (.iconst 1, 1) := by decide +kernel
theorem d_X7_about_129 : decode prog_9_method_45_code 129 = .ok (.goto 4, 3) := by decide +kernel
theorem d_X7_about_132 : decode prog_9_method_45_code 132 = .ok (.iconst 0, 1) := by decide +kernel
theorem d_X7_about_133 : decode prog_9_method_45_code 133 = .ok (.ireturn, 1) := by decide +kernel
theorem d_X7_about_134 : decode prog_9_method_45_code 134 = .ok (.aload_n 0, 1) := by decide +kernel
theorem d_X7_about_135 : decode prog_9_method_45_code 135 = .ok (.invokevirtual 206, 3) := by decide +kernel
theorem d_X7_about_138 : decode prog_9_method_45_code 138 = .ok (.ireturn, 1) := by decide +kernel
theorem d_X7_about_139 : decode prog_9_method_45_code 139 = .ok (.aload_n 0, 1) := by decide +kernel
theorem d_X7_about_140 : decode prog_9_method_45_code 140 = .ok (.getfield 124, 3) := by decide +kernel
theorem d_X7_about_143 : decode prog_9_method_45_code 143 = .ok (.ireturn, 1) := by decide +kernel
theorem d_X7_about_144 : decode prog_9_method_45_code 144 = .ok (.aload_n 0, 1) := by decide +kernel
theorem d_X7_about_145 : decode prog_9_method_45_code 145 = .ok (.getfield 209, 3) := by decide +kernel
theorem d_X7_about_148 : decode prog_9_method_45_code 148 = .ok (.ireturn, 1) := by decide +kernel
theorem d_X7_about_149 : decode prog_9_method_45_code 149 = .ok (.aload_n 0, 1) := by decide +kernel
theorem d_X7_about_150 : decode prog_9_method_45_code 150 = .ok (.getfield 82, 3) := by decide +kernel
theorem d_X7_about_153 : decode prog_9_method_45_code 153 = .ok (.ireturn, 1) := by decide +kernel
theorem d_X7_about_154 : decode prog_9_method_45_code 154 = .ok (.bipush (-2), 2) := by decide +kernel
theorem d_X7_about_156 : decode prog_9_method_45_code 156 = .ok (.ireturn, 1) := by decide +kernel
abbrev M_Model_about : zMT := (⟨"PeriodSlotsModel", "about", "(I)I"⟩, prog_9_method_45_code, 2, (some .int))
theorem k_Model_about : zcall M_Model_about 1 := ⟨zU_in (i := 900) (by decide +kernel) rfl, m62, ⟨by decide, by decide, by decide +kernel⟩, by decide⟩
def o_Model_about (h : zHp) (what : Int32) : Int32 × zHp :=
  (if what = 0 then ((h 51 1), (o_Model_layNear h 54 (o_Model_all h))) else (if what = 1 then ((o_Model_links h), (o_Model_layNear h 54 (o_Model_all h))) else (if what = 2 then (((o_Model_clashes (o_Model_layNear h 54 (o_Model_all h)) 54).1), ((o_Model_clashes (o_Model_layNear h 54 (o_Model_all h)) 54).2)) else (if what = 3 then ((h 54 24), (o_Model_layNear h 54 (o_Model_all h))) else (if what = 4 then ((o_Model_unsettled (o_Model_layNear h 54 (o_Model_all h)) 54), (o_Model_layNear h 54 (o_Model_all h))) else (if what = 5 then ((o_Model_withOffset h 54), (o_Model_layNear h 54 (o_Model_all h))) else (if what = 6 then ((zb (o_Model_isQuiet (o_Model_layNear h 54 (o_Model_all h)) 54)), (o_Model_layNear h 54 (o_Model_all h))) else (if what = 7 then ((o_Model_nets h), (o_Model_layNear h 54 (o_Model_all h))) else (if what = 8 then ((h 51 2), (o_Model_layNear h 54 (o_Model_all h))) else (if what = 9 then ((h 51 4), (o_Model_layNear h 54 (o_Model_all h))) else (if what = 10 then ((h 51 0), (o_Model_layNear h 54 (o_Model_all h))) else ((-2), (o_Model_layNear h 54 (o_Model_all h))))))))))))))
theorem fr_Model_about {h : zHp} {what : Int32} (c k : Nat) (q0 : ¬ (c = 51 ∧ k = 9)) (q1 : c ≠ 66) : (o_Model_about h what).2 c k = h c k := by
  unfold o_Model_about
  by_cases f1 : what = 0
  · rw [if_pos f1]
    try dsimp only
    first | done | exact (fr_Model_layNear _ _ (by assumption) (by assumption))
  · rw [if_neg f1]
    by_cases f2 : what = 1
    · rw [if_pos f2]
      try dsimp only
      first | done | exact (fr_Model_layNear _ _ (by assumption) (by assumption))
    · rw [if_neg f2]
      by_cases f3 : what = 2
      · rw [if_pos f3]
        try dsimp only
        first | done | exact ((fr_Model_clashes _ _ (by assumption) (by assumption)).trans (fr_Model_layNear _ _ (by assumption) (by assumption)))
      · rw [if_neg f3]
        by_cases f4 : what = 3
        · rw [if_pos f4]
          try dsimp only
          first | done | exact (fr_Model_layNear _ _ (by assumption) (by assumption))
        · rw [if_neg f4]
          by_cases f5 : what = 4
          · rw [if_pos f5]
            try dsimp only
            first | done | exact (fr_Model_layNear _ _ (by assumption) (by assumption))
          · rw [if_neg f5]
            by_cases f6 : what = 5
            · rw [if_pos f6]
              try dsimp only
              first | done | exact (fr_Model_layNear _ _ (by assumption) (by assumption))
            · rw [if_neg f6]
              by_cases f7 : what = 6
              · rw [if_pos f7]
                try dsimp only
                first | done | exact (fr_Model_layNear _ _ (by assumption) (by assumption))
              · rw [if_neg f7]
                by_cases f8 : what = 7
                · rw [if_pos f8]
                  try dsimp only
                  first | done | exact (fr_Model_layNear _ _ (by assumption) (by assumption))
                · rw [if_neg f8]
                  by_cases f9 : what = 8
                  · rw [if_pos f9]
                    try dsimp only
                    first | done | exact (fr_Model_layNear _ _ (by assumption) (by assumption))
                  · rw [if_neg f9]
                    by_cases f10 : what = 9
                    · rw [if_pos f10]
                      try dsimp only
                      first | done | exact (fr_Model_layNear _ _ (by assumption) (by assumption))
                    · rw [if_neg f10]
                      by_cases f11 : what = 10
                      · rw [if_pos f11]
                        try dsimp only
                        first | done | exact (fr_Model_layNear _ _ (by assumption) (by assumption))
                      · rw [if_neg f11]
                        try dsimp only
                        first | done | exact (fr_Model_layNear _ _ (by assumption) (by assumption))
set_option maxHeartbeats 400000 in
set_option maxRecDepth 20000 in
theorem c_Model_about (X : zXT) (h : zHp) (g : zLg) (what : Int32) (hf0 : zfit h 51 1 8) (hper : zper h) : zDi X M_Model_about 7 [zR X 51, .int what] h g (zI ((o_Model_about h what).1)) ((o_Model_about h what).2) g := by
  have hf0_1 := hf0.1
  refine zDi_of "PeriodSlotsModel" prog_9_method_45_code 2 (some .int) rfl (by decide) [zO X 51, zI what] rfl (fun _ q => q) (Nat.le_of_ble_eq_true rfl) ?_
  intro Γ Q C hQ
  refine zr_aload_n C d_X7_about_0 rfl ?_
  refine zr_aload_n C d_X7_about_1 rfl ?_
  refine gf_Model_4 C m757 d_X7_about_2 ?_
  refine zr_aload_n C d_X7_about_5 rfl ?_
  refine zr_callVi (As := []) (st := [zR X 54, zR X 51]) (c := 51) C (c_Model_all X h g ) k_Model_all m901 m903 m25 (by decide) (zC_Model X _ _) rfl rfl (by decide) rfl (Nat.le_of_ble_eq_true rfl) d_X7_about_6 ?_
  refine zr_callVv (As := [zR X 54, .int (o_Model_all h)]) (st := []) (c := 51) C (c_Model_layNear X h g 54 (o_Model_all h) (by decide) hf0) k_Model_layNear m905 m907 m26 (by decide) (zC_Model X _ _) rfl rfl (by decide) rfl (Nat.le_of_ble_eq_true rfl) d_X7_about_9 ?_
  refine zr_h (fun h1 eh1 => ?_)
  refine zr_iload_n C d_X7_about_12 rfl ?_
  by_cases c13_0 : what = 0
  · refine zr_tabIn C 72 (off := 59) d_X7_about_13 (by rw [c13_0]; decide) (by rw [c13_0]; decide) (by rw [c13_0]; rfl) (by decide) ?_
    refine zr_aload_n C d_X7_about_72 rfl ?_
    refine gf_Model_2 C m755 d_X7_about_73 ?_
    refine zr_top ((congrFun (congrFun eh1.symm _) _).trans (fr_Model_layNear _ _ (by omega) (by omega))) ?_
    have eR : o_Model_about h what = ((h 51 1), h1) := (by subst eh1; unfold o_Model_about; rw [if_pos c13_0])
    subst hQ
    exact zTQ_Ih eR (zr_ireti C d_X7_about_76)
  · by_cases c13_1 : what = 1
    · refine zr_tabIn C 77 (off := 64) d_X7_about_13 (by rw [c13_1]; decide) (by rw [c13_1]; decide) (by rw [c13_1]; rfl) (by decide) ?_
      refine zr_aload_n C d_X7_about_77 rfl ?_
      refine zr_callVi (As := []) (st := []) (c := 51) C (c_Model_links X h1 g (zfit_fr ((congrFun (congrFun eh1.symm _) _).trans (fr_Model_layNear _ _ (by omega) (by omega))) hf0)) k_Model_links m913 m915 m28 (by decide) (zC_Model X _ _) rfl rfl (by decide) rfl (Nat.le_of_ble_eq_true rfl) d_X7_about_78 ?_
      refine zr_top (rd_Model_links ((congrFun (congrFun eh1.symm _) _).trans (fr_Model_layNear _ _ (by omega) (by omega))) (funext fun kk => ((congrFun (congrFun eh1.symm _) _).trans (fr_Model_layNear _ _ (by omega) (by omega))))) ?_
      have eR : o_Model_about h what = ((o_Model_links h), h1) := (by subst eh1; unfold o_Model_about; rw [if_neg c13_0, if_pos c13_1])
      subst hQ
      exact zTQ_Ih eR (zr_ireti C d_X7_about_81)
    · by_cases c13_2 : what = 2
      · refine zr_tabIn C 82 (off := 69) d_X7_about_13 (by rw [c13_2]; decide) (by rw [c13_2]; decide) (by rw [c13_2]; rfl) (by decide) ?_
        refine zr_aload_n C d_X7_about_82 rfl ?_
        refine zr_aload_n C d_X7_about_83 rfl ?_
        refine gf_Model_4 C m757 d_X7_about_84 ?_
        refine zr_callVi (As := [zR X 54]) (st := []) (c := 51) C (c_Model_clashes X h1 g 54 (by decide) (zfit_fr ((congrFun (congrFun eh1.symm _) _).trans (fr_Model_layNear _ _ (by omega) (by omega))) hf0) (zper_fr ((congrFun (congrFun eh1.symm _) _).trans (fr_Model_layNear _ _ (by omega) (by omega))) (fun v => ((congrFun (congrFun eh1.symm _) _).trans (fr_Model_layNear _ _ (by omega) (by omega)))) hper)) k_Model_clashes m920 m922 m29 (by decide) (zC_Model X _ _) rfl rfl (by decide) rfl (Nat.le_of_ble_eq_true rfl) d_X7_about_87 ?_
        refine zr_vi (fun y2 ey2 => ?_)
        refine zr_h (fun h3 eh3 => ?_)
        have eR : o_Model_about h what = (y2, h3) := (by subst eh3 ey2 eh1; unfold o_Model_about; rw [if_neg c13_0, if_neg c13_1, if_pos c13_2])
        subst hQ
        exact zTQ_Ih eR (zr_ireti C d_X7_about_90)
      · by_cases c13_3 : what = 3
        · refine zr_tabIn C 91 (off := 78) d_X7_about_13 (by rw [c13_3]; decide) (by rw [c13_3]; decide) (by rw [c13_3]; rfl) (by decide) ?_
          refine zr_aload_n C d_X7_about_91 rfl ?_
          refine gf_Model_4 C m757 d_X7_about_92 ?_
          refine zr_bipush C (v := 24) d_X7_about_95 (by decide) ?_
          refine zr_iald C za_54 (24) rfl (by omega) (by decide) d_X7_about_97 ?_
          refine zr_top ((congrFun (congrFun eh1.symm _) _).trans (fr_Model_layNear _ _ (by omega) (by omega))) ?_
          have eR : o_Model_about h what = ((h 54 24), h1) := (by subst eh1; unfold o_Model_about; rw [if_neg c13_0, if_neg c13_1, if_neg c13_2, if_pos c13_3])
          subst hQ
          exact zTQ_Ih eR (zr_ireti C d_X7_about_98)
        · by_cases c13_4 : what = 4
          · refine zr_tabIn C 99 (off := 86) d_X7_about_13 (by rw [c13_4]; decide) (by rw [c13_4]; decide) (by rw [c13_4]; rfl) (by decide) ?_
            refine zr_aload_n C d_X7_about_99 rfl ?_
            refine zr_aload_n C d_X7_about_100 rfl ?_
            refine gf_Model_4 C m757 d_X7_about_101 ?_
            refine zr_callVi (As := [zR X 54]) (st := []) (c := 51) C (c_Model_unsettled X h1 g 54 (by decide) (zfit_fr ((congrFun (congrFun eh1.symm _) _).trans (fr_Model_layNear _ _ (by omega) (by omega))) hf0) (zper_fr ((congrFun (congrFun eh1.symm _) _).trans (fr_Model_layNear _ _ (by omega) (by omega))) (fun v => ((congrFun (congrFun eh1.symm _) _).trans (fr_Model_layNear _ _ (by omega) (by omega)))) hper)) k_Model_unsettled m931 m933 m31 (by decide) (zC_Model X _ _) rfl rfl (by decide) rfl (Nat.le_of_ble_eq_true rfl) d_X7_about_104 ?_
            have eR : o_Model_about h what = ((o_Model_unsettled h1 54), h1) := (by subst eh1; unfold o_Model_about; rw [if_neg c13_0, if_neg c13_1, if_neg c13_2, if_neg c13_3, if_pos c13_4])
            subst hQ
            exact zTQ_Ih eR (zr_ireti C d_X7_about_107)
          · by_cases c13_5 : what = 5
            · refine zr_tabIn C 108 (off := 95) d_X7_about_13 (by rw [c13_5]; decide) (by rw [c13_5]; decide) (by rw [c13_5]; rfl) (by decide) ?_
              refine zr_aload_n C d_X7_about_108 rfl ?_
              refine zr_aload_n C d_X7_about_109 rfl ?_
              refine gf_Model_4 C m757 d_X7_about_110 ?_
              refine zr_callVi (As := [zR X 54]) (st := []) (c := 51) C (c_Model_withOffset X h1 g 54 (by decide) (zfit_fr ((congrFun (congrFun eh1.symm _) _).trans (fr_Model_layNear _ _ (by omega) (by omega))) hf0)) k_Model_withOffset m953 m955 m35 (by decide) (zC_Model X _ _) rfl rfl (by decide) rfl (Nat.le_of_ble_eq_true rfl) d_X7_about_113 ?_
              refine zr_top (rd_Model_withOffset ((congrFun (congrFun eh1.symm _) _).trans (fr_Model_layNear _ _ (by omega) (by omega))) (funext fun kk => ((congrFun (congrFun eh1.symm _) _).trans (fr_Model_layNear _ _ (by omega) (by omega))))) ?_
              have eR : o_Model_about h what = ((o_Model_withOffset h 54), h1) := (by subst eh1; unfold o_Model_about; rw [if_neg c13_0, if_neg c13_1, if_neg c13_2, if_neg c13_3, if_neg c13_4, if_pos c13_5])
              subst hQ
              exact zTQ_Ih eR (zr_ireti C d_X7_about_116)
            · by_cases c13_6 : what = 6
              · refine zr_tabIn C 117 (off := 104) d_X7_about_13 (by rw [c13_6]; decide) (by rw [c13_6]; decide) (by rw [c13_6]; rfl) (by decide) ?_
                refine zr_aload_n C d_X7_about_117 rfl ?_
                refine zr_aload_n C d_X7_about_118 rfl ?_
                refine gf_Model_4 C m757 d_X7_about_119 ?_
                refine zr_callVi (As := [zR X 54]) (st := []) (c := 51) C (c_Model_isQuiet X h1 g 54 (by decide) (zfit_fr ((congrFun (congrFun eh1.symm _) _).trans (fr_Model_layNear _ _ (by omega) (by omega))) hf0) (zper_fr ((congrFun (congrFun eh1.symm _) _).trans (fr_Model_layNear _ _ (by omega) (by omega))) (fun v => ((congrFun (congrFun eh1.symm _) _).trans (fr_Model_layNear _ _ (by omega) (by omega)))) hper)) k_Model_isQuiet m957 m959 m36 (by decide) (zC_Model X _ _) rfl rfl (by decide) rfl (Nat.le_of_ble_eq_true rfl) d_X7_about_122 ?_
                suffices hJ125 : ∀ (y4 : Bool), (o_Model_isQuiet h1 54) = y4 → zV X Γ Q 133 [none, none] [.int (zb y4)] h1 g by
                  refine zr_ifz_eq C 132 d_X7_about_125 (by decide) (fun c125 => ?_) (fun c125 => ?_)
                  · refine zr_iconst C (v := 0) d_X7_about_132 (by decide) ?_
                    refine zr_lv [none, none] (by simp [zle]) ?_
                    exact hJ125 false (by simp [c125])
                  · refine zr_iconst C (v := 1) d_X7_about_128 (by decide) ?_
                    refine zr_goto C 133 d_X7_about_129 (by decide) ?_
                    refine zr_lv [none, none] (by simp [zle]) ?_
                    exact hJ125 true (by simp [c125])
                intro y4 ey4
                have eR : o_Model_about h what = ((zb y4), h1) := (by subst ey4 eh1; unfold o_Model_about; rw [if_neg c13_0, if_neg c13_1, if_neg c13_2, if_neg c13_3, if_neg c13_4, if_neg c13_5, if_pos c13_6])
                subst hQ
                exact zTQ_Ih eR (zr_ireti C d_X7_about_133)
              · by_cases c13_7 : what = 7
                · refine zr_tabIn C 134 (off := 121) d_X7_about_13 (by rw [c13_7]; decide) (by rw [c13_7]; decide) (by rw [c13_7]; rfl) (by decide) ?_
                  refine zr_aload_n C d_X7_about_134 rfl ?_
                  refine zr_callVi (As := []) (st := []) (c := 51) C (c_Model_nets X h1 g (zfit_fr ((congrFun (congrFun eh1.symm _) _).trans (fr_Model_layNear _ _ (by omega) (by omega))) hf0)) k_Model_nets m965 m967 m38 (by decide) (zC_Model X _ _) rfl rfl (by decide) rfl (Nat.le_of_ble_eq_true rfl) d_X7_about_135 ?_
                  refine zr_top (rd_Model_nets ((congrFun (congrFun eh1.symm _) _).trans (fr_Model_layNear _ _ (by omega) (by omega))) (funext fun kk => ((congrFun (congrFun eh1.symm _) _).trans (fr_Model_layNear _ _ (by omega) (by omega))))) ?_
                  have eR : o_Model_about h what = ((o_Model_nets h), h1) := (by subst eh1; unfold o_Model_about; rw [if_neg c13_0, if_neg c13_1, if_neg c13_2, if_neg c13_3, if_neg c13_4, if_neg c13_5, if_neg c13_6, if_pos c13_7])
                  subst hQ
                  exact zTQ_Ih eR (zr_ireti C d_X7_about_138)
                · by_cases c13_8 : what = 8
                  · refine zr_tabIn C 139 (off := 126) d_X7_about_13 (by rw [c13_8]; decide) (by rw [c13_8]; decide) (by rw [c13_8]; rfl) (by decide) ?_
                    refine zr_aload_n C d_X7_about_139 rfl ?_
                    refine gf_Model_8 C m761 d_X7_about_140 ?_
                    refine zr_top ((congrFun (congrFun eh1.symm _) _).trans (fr_Model_layNear _ _ (by omega) (by omega))) ?_
                    have eR : o_Model_about h what = ((h 51 2), h1) := (by subst eh1; unfold o_Model_about; rw [if_neg c13_0, if_neg c13_1, if_neg c13_2, if_neg c13_3, if_neg c13_4, if_neg c13_5, if_neg c13_6, if_neg c13_7, if_pos c13_8])
                    subst hQ
                    exact zTQ_Ih eR (zr_ireti C d_X7_about_143)
                  · by_cases c13_9 : what = 9
                    · refine zr_tabIn C 144 (off := 131) d_X7_about_13 (by rw [c13_9]; decide) (by rw [c13_9]; decide) (by rw [c13_9]; rfl) (by decide) ?_
                      refine zr_aload_n C d_X7_about_144 rfl ?_
                      refine gf_Model_15 C m768 d_X7_about_145 ?_
                      refine zr_top ((congrFun (congrFun eh1.symm _) _).trans (fr_Model_layNear _ _ (by omega) (by omega))) ?_
                      have eR : o_Model_about h what = ((h 51 4), h1) := (by subst eh1; unfold o_Model_about; rw [if_neg c13_0, if_neg c13_1, if_neg c13_2, if_neg c13_3, if_neg c13_4, if_neg c13_5, if_neg c13_6, if_neg c13_7, if_neg c13_8, if_pos c13_9])
                      subst hQ
                      exact zTQ_Ih eR (zr_ireti C d_X7_about_148)
                    · by_cases c13_10 : what = 10
                      · refine zr_tabIn C 149 (off := 136) d_X7_about_13 (by rw [c13_10]; decide) (by rw [c13_10]; decide) (by rw [c13_10]; rfl) (by decide) ?_
                        refine zr_aload_n C d_X7_about_149 rfl ?_
                        refine gf_Model_1 C m754 d_X7_about_150 ?_
                        refine zr_top ((congrFun (congrFun eh1.symm _) _).trans (fr_Model_layNear _ _ (by omega) (by omega))) ?_
                        have eR : o_Model_about h what = ((h 51 0), h1) := (by subst eh1; unfold o_Model_about; rw [if_neg c13_0, if_neg c13_1, if_neg c13_2, if_neg c13_3, if_neg c13_4, if_neg c13_5, if_neg c13_6, if_neg c13_7, if_neg c13_8, if_neg c13_9, if_pos c13_10])
                        subst hQ
                        exact zTQ_Ih eR (zr_ireti C d_X7_about_153)
                      · have w13_0 : (what : Int32).toInt ≠ 0 := zne_toInt c13_0 (by decide)
                        have w13_1 : (what : Int32).toInt ≠ 1 := zne_toInt c13_1 (by decide)
                        have w13_2 : (what : Int32).toInt ≠ 2 := zne_toInt c13_2 (by decide)
                        have w13_3 : (what : Int32).toInt ≠ 3 := zne_toInt c13_3 (by decide)
                        have w13_4 : (what : Int32).toInt ≠ 4 := zne_toInt c13_4 (by decide)
                        have w13_5 : (what : Int32).toInt ≠ 5 := zne_toInt c13_5 (by decide)
                        have w13_6 : (what : Int32).toInt ≠ 6 := zne_toInt c13_6 (by decide)
                        have w13_7 : (what : Int32).toInt ≠ 7 := zne_toInt c13_7 (by decide)
                        have w13_8 : (what : Int32).toInt ≠ 8 := zne_toInt c13_8 (by decide)
                        have w13_9 : (what : Int32).toInt ≠ 9 := zne_toInt c13_9 (by decide)
                        have w13_10 : (what : Int32).toInt ≠ 10 := zne_toInt c13_10 (by decide)
                        refine zr_tabOut C 154 d_X7_about_13 (by omega) (by decide) ?_
                        refine zr_bipush C (v := (-2)) d_X7_about_154 (by decide) ?_
                        have eR : o_Model_about h what = ((-2), h1) := (by subst eh1; unfold o_Model_about; rw [if_neg c13_0, if_neg c13_1, if_neg c13_2, if_neg c13_3, if_neg c13_4, if_neg c13_5, if_neg c13_6, if_neg c13_7, if_neg c13_8, if_neg c13_9, if_neg c13_10])
                        subst hQ
                        exact zTQ_Ih eR (zr_ireti C d_X7_about_156)
theorem d_X7_station_0 : decode prog_9_method_46_code 0 = .ok (.aload_n 0, 1) := by decide +kernel
theorem d_X7_station_1 : decode prog_9_method_46_code 1 = .ok (.iload_n 1, 1) := by decide +kernel
theorem d_X7_station_2 : decode prog_9_method_46_code 2 = .ok (.invokevirtual 212, 3) := by decide +kernel
theorem d_X7_station_5 : decode prog_9_method_46_code 5 = .ok (.ifCond .ne 5, 3) := by decide +kernel
theorem d_X7_station_8 : decode prog_9_method_46_code 8 = .ok (.iconst (-1), 1) := by decide +kernel
theorem d_X7_station_9 : decode prog_9_method_46_code 9 = .ok (.ireturn, 1) := by decide +kernel
theorem d_X7_station_10 : decode prog_9_method_46_code 10 = .ok (.aload_n 0, 1) := by decide +kernel
theorem d_X7_station_11 : decode prog_9_method_46_code 11 = .ok (.aload_n 0, 1) := by decide +kernel
theorem d_X7_station_12 : decode prog_9_method_46_code 12 = .ok (.getfield 16, 3) := by decide +kernel
theorem d_X7_station_15 : decode prog_9_method_46_code 15 = .ok (.aload_n 0, 1) := by decide +kernel
theorem d_X7_station_16 : decode prog_9_method_46_code 16 = .ok (.invokevirtual 159, 3) := by decide +kernel
theorem d_X7_station_19 : decode prog_9_method_46_code 19 = .ok (.invokevirtual 162, 3) := by decide +kernel
theorem d_X7_station_22 : decode prog_9_method_46_code 22 = .ok (.iload_n 2, 1) := by decide +kernel
theorem d_X7_station_23 : decode prog_9_method_46_code 23 = .ok (.tableswitch 146 0 9 #[53, 60, 67, 77, 87, 97, 107, 114, 126, 136], 53) := by decide +kernel
theorem d_X7_station_76 : decode prog_9_method_46_code 76 = .ok (.aload_n 0, 1) := by decide +kernel
theorem d_X7_station_77 : decode prog_9_method_46_code 77 = .ok (.getfield 13, 3) := by decide +kernel
theorem d_X7_station_80 : decode prog_9_method_46_code 80 = .ok (.iload_n 1, 1) := by decide +kernel
theorem d_X7_station_81 : decode prog_9_method_46_code 81 = .ok (.iaload, 1) := by decide +kernel
theorem d_X7_station_82 : decode prog_9_method_46_code 82 = .ok (.ireturn, 1) := by decide +kernel
theorem d_X7_station_83 : decode prog_9_method_46_code 83 = .ok (.aload_n 0, 1) := by decide +kernel
theorem d_X7_station_84 : decode prog_9_method_46_code 84 = .ok (.getfield 16, 3) := by decide +kernel
theorem d_X7_station_87 : decode prog_9_method_46_code 87 = .ok (.iload_n 1, 1) := by decide +kernel
theorem d_X7_station_88 : decode prog_9_method_46_code 88 = .ok (.iaload, 1) := by decide +kernel
theorem d_X7_station_89 : decode prog_9_method_46_code 89 = .ok (.ireturn, 1) := by decide +kernel
theorem d_X7_station_90 : decode prog_9_method_46_code 90 = .ok (.aload_n 0, 1) := by decide +kernel
theorem d_X7_station_91 : decode prog_9_method_46_code 91 = .ok (.getfield 16, 3) := by decide +kernel
theorem d_X7_station_94 : decode prog_9_method_46_code 94 = .ok (.bipush 8, 2) := by decide +kernel
theorem d_X7_station_96 : decode prog_9_method_46_code 96 = .ok (.iload_n 1, 1) := by decide +kernel
theorem d_X7_station_97 : decode prog_9_method_46_code 97 = .ok (.iadd, 1) := by decide +kernel
theorem d_X7_station_98 : decode prog_9_method_46_code 98 = .ok (.iaload, 1) := by decide +kernel
theorem d_X7_station_99 : decode prog_9_method_46_code 99 = .ok (.ireturn, 1) := by decide +kernel
theorem d_X7_station_100 : decode prog_9_method_46_code 100 = .ok (.aload_n 0, 1) := by decide +kernel
theorem d_X7_station_101 : decode prog_9_method_46_code 101 = .ok (.aload_n 0, 1) := by decide +kernel
theorem d_X7_station_102 : decode prog_9_method_46_code 102 = .ok (.getfield 16, 3) := by decide +kernel
theorem d_X7_station_105 : decode prog_9_method_46_code 105 = .ok (.iload_n 1, 1) := by decide +kernel
theorem d_X7_station_106 : decode prog_9_method_46_code 106 = .ok (.invokevirtual 131, 3) := by decide +kernel
theorem d_X7_station_109 : decode prog_9_method_46_code 109 = .ok (.ireturn, 1) := by decide +kernel
theorem d_X7_station_110 : decode prog_9_method_46_code 110 = .ok (.aload_n 0, 1) := by decide +kernel
theorem d_X7_station_111 : decode prog_9_method_46_code 111 = .ok (.aload_n 0, 1) := by decide +kernel
theorem d_X7_station_112 : decode prog_9_method_46_code 112 = .ok (.getfield 16, 3) := by decide +kernel
theorem d_X7_station_115 : decode prog_9_method_46_code 115 = .ok (.iload_n 1, 1) := by decide +kernel
theorem d_X7_station_116 : decode prog_9_method_46_code 116 = .ok (.invokevirtual 148, 3) := by decide +kernel
theorem d_X7_station_119 : decode prog_9_method_46_code 119 = .ok (.ireturn, 1) := by decide +kernel
theorem d_X7_station_120 : decode prog_9_method_46_code 120 = .ok (.aload_n 0, 1) := by decide +kernel
theorem d_X7_station_121 : decode prog_9_method_46_code 121 = .ok (.getfield 16, 3) := by decide +kernel
theorem d_X7_station_124 : decode prog_9_method_46_code 124 = .ok (.bipush 16, 2) := by decide +kernel
theorem d_X7_station_126 : decode prog_9_method_46_code 126 = .ok (.iload_n 1, 1) := by decide +kernel
theorem d_X7_station_127 : decode prog_9_method_46_code 127 = .ok (.iadd, 1) := by decide +kernel
theorem d_X7_station_128 : decode prog_9_method_46_code 128 = .ok (.iaload, 1) := by decide +kernel
theorem d_X7_station_129 : decode prog_9_method_46_code 129 = .ok (.ireturn, 1) := by decide +kernel
theorem d_X7_station_130 : decode prog_9_method_46_code 130 = .ok (.aload_n 0, 1) := by decide +kernel
theorem d_X7_station_131 : decode prog_9_method_46_code 131 = .ok (.getfield 53, 3) := by decide +kernel
theorem d_X7_station_134 : decode prog_9_method_46_code 134 = .ok (.iload_n 1, 1) := by decide +kernel
theorem d_X7_station_135 : decode prog_9_method_46_code 135 = .ok (.iaload, 1) := by decide +kernel
theorem d_X7_station_136 : decode prog_9_method_46_code 136 = .ok (.ireturn, 1) := by decide +kernel
theorem d_X7_station_137 : decode prog_9_method_46_code 137 = .ok (.iload_n 1, 1) := by decide +kernel
theorem d_X7_station_138 : decode prog_9_method_46_code 138 = .ok (.aload_n 0, 1) := by decide +kernel
theorem d_X7_station_139 : decode prog_9_method_46_code 139 = .ok (.getfield 16, 3) := by decide +kernel
theorem d_X7_station_142 : decode prog_9_method_46_code 142 = .ok (.bipush 24, 2) := by decide +kernel
theorem d_X7_station_144 : decode prog_9_method_46_code 144 = .ok (.iaload, 1) := by decide +kernel
theorem d_X7_station_145 : decode prog_9_method_46_code 145 = .ok (.invokestatic 141, 3) := by decide +kernel
theorem d_X7_station_148 : decode prog_9_method_46_code 148 = .ok (.ireturn, 1) := by decide +kernel
theorem d_X7_station_149 : decode prog_9_method_46_code 149 = .ok (.aload_n 0, 1) := by decide +kernel
theorem d_X7_station_150 : decode prog_9_method_46_code 150 = .ok (.aload_n 0, 1) := by decide +kernel
theorem d_X7_station_151 : decode prog_9_method_46_code 151 = .ok (.getfield 16, 3) := by decide +kernel
theorem d_X7_station_154 : decode prog_9_method_46_code 154 = .ok (.iload_n 1, 1) := by decide +kernel
theorem d_X7_station_155 : decode prog_9_method_46_code 155 = .ok (.invokevirtual 170, 3) := by decide +kernel
theorem d_X7_station_158 : decode prog_9_method_46_code 158 = .ok (.ireturn, 1) := by decide +kernel
theorem d_X7_station_159 : decode prog_9_method_46_code 159 = .ok (.aload_n 0, 1) := by decide +kernel
theorem d_X7_station_160 : decode prog_9_method_46_code 160 = .ok (.aload_n 0, 1) := by decide +kernel
theorem d_X7_station_161 : decode prog_9_method_46_code 161 = .ok (.getfield 16, 3) := by decide +kernel
theorem d_X7_station_164 : decode prog_9_method_46_code 164 = .ok (.iload_n 1, 1) := by decide +kernel
theorem d_X7_station_165 : decode prog_9_method_46_code 165 = .ok (.invokevirtual 194, 3) := by decide +kernel
theorem d_X7_station_168 : decode prog_9_method_46_code 168 = .ok (.ireturn, 1) := by decide +kernel
theorem d_X7_station_169 : decode prog_9_method_46_code 169 = .ok (.bipush (-2), 2) := by decide +kernel
theorem d_X7_station_171 : decode prog_9_method_46_code 171 = .ok (.ireturn, 1) := by decide +kernel
abbrev M_Model_station : zMT := (⟨"PeriodSlotsModel", "station", "(II)I"⟩, prog_9_method_46_code, 3, (some .int))
theorem k_Model_station : zcall M_Model_station 2 := ⟨zU_in (i := 979) (by decide +kernel) rfl, m62, ⟨by decide, by decide, by decide +kernel⟩, by decide⟩
def o_Model_station (h : zHp) (s : Int32) (what : Int32) : Int32 × zHp :=
  (if (o_Model_isStation h s) = true then (if what = 0 then ((h 53 (zcn s)), (o_Model_layNear h 54 (o_Model_all h))) else (if what = 1 then ((h 54 (zcn s)), (o_Model_layNear h 54 (o_Model_all h))) else (if what = 2 then ((h 54 (8 + (zcn s))), (o_Model_layNear h 54 (o_Model_all h))) else (if what = 3 then ((o_Model_ticks h 54 (zcn s)), (o_Model_layNear h 54 (o_Model_all h))) else (if what = 4 then ((o_Model_held h 54 (zcn s)), (o_Model_layNear h 54 (o_Model_all h))) else (if what = 5 then ((h 54 (16 + (zcn s))), (o_Model_layNear h 54 (o_Model_all h))) else (if what = 6 then (((o_Model_layNear h 54 (o_Model_all h)) 66 (zcn s)), (o_Model_layNear h 54 (o_Model_all h))) else (if what = 7 then ((o_Model_drawOf s (h 54 24)), (o_Model_layNear h 54 (o_Model_all h))) else (if what = 8 then ((o_Model_free (o_Model_layNear h 54 (o_Model_all h)) 54 (zcn s)), (o_Model_layNear h 54 (o_Model_all h))) else (if what = 9 then ((o_Model_netOf h 54 s), (o_Model_layNear h 54 (o_Model_all h))) else ((-2), (o_Model_layNear h 54 (o_Model_all h))))))))))))) else ((-1), h))
theorem fr_Model_station {h : zHp} {s : Int32} {what : Int32} (c k : Nat) (q0 : ¬ (c = 51 ∧ k = 9)) (q1 : c ≠ 66) : (o_Model_station h s what).2 c k = h c k := by
  unfold o_Model_station
  by_cases f1 : (o_Model_isStation h s) = true
  · rw [if_pos f1]
    by_cases f2 : what = 0
    · rw [if_pos f2]
      try dsimp only
      first | done | exact (fr_Model_layNear _ _ (by assumption) (by assumption))
    · rw [if_neg f2]
      by_cases f3 : what = 1
      · rw [if_pos f3]
        try dsimp only
        first | done | exact (fr_Model_layNear _ _ (by assumption) (by assumption))
      · rw [if_neg f3]
        by_cases f4 : what = 2
        · rw [if_pos f4]
          try dsimp only
          first | done | exact (fr_Model_layNear _ _ (by assumption) (by assumption))
        · rw [if_neg f4]
          by_cases f5 : what = 3
          · rw [if_pos f5]
            try dsimp only
            first | done | exact (fr_Model_layNear _ _ (by assumption) (by assumption))
          · rw [if_neg f5]
            by_cases f6 : what = 4
            · rw [if_pos f6]
              try dsimp only
              first | done | exact (fr_Model_layNear _ _ (by assumption) (by assumption))
            · rw [if_neg f6]
              by_cases f7 : what = 5
              · rw [if_pos f7]
                try dsimp only
                first | done | exact (fr_Model_layNear _ _ (by assumption) (by assumption))
              · rw [if_neg f7]
                by_cases f8 : what = 6
                · rw [if_pos f8]
                  try dsimp only
                  first | done | exact (fr_Model_layNear _ _ (by assumption) (by assumption))
                · rw [if_neg f8]
                  by_cases f9 : what = 7
                  · rw [if_pos f9]
                    try dsimp only
                    first | done | exact (fr_Model_layNear _ _ (by assumption) (by assumption))
                  · rw [if_neg f9]
                    by_cases f10 : what = 8
                    · rw [if_pos f10]
                      try dsimp only
                      first | done | exact (fr_Model_layNear _ _ (by assumption) (by assumption))
                    · rw [if_neg f10]
                      by_cases f11 : what = 9
                      · rw [if_pos f11]
                        try dsimp only
                        first | done | exact (fr_Model_layNear _ _ (by assumption) (by assumption))
                      · rw [if_neg f11]
                        try dsimp only
                        first | done | exact (fr_Model_layNear _ _ (by assumption) (by assumption))
  · rw [if_neg f1]
    try dsimp only
    first | done | exact rfl
set_option maxHeartbeats 400000 in
set_option maxRecDepth 20000 in
theorem c_Model_station (X : zXT) (h : zHp) (g : zLg) (s : Int32) (what : Int32) (hf0 : zfit h 51 1 8) (hper : zper h) : zDi X M_Model_station 5 [zR X 51, .int s, .int what] h g (zI ((o_Model_station h s what).1)) ((o_Model_station h s what).2) g := by
  have hf0_1 := hf0.1
  refine zDi_of "PeriodSlotsModel" prog_9_method_46_code 3 (some .int) rfl (by decide) [zO X 51, zI s, zI what] rfl (fun _ q => q) (Nat.le_of_ble_eq_true rfl) ?_
  intro Γ Q C hQ
  refine zr_aload_n C d_X7_station_0 rfl ?_
  refine zr_iload_n C d_X7_station_1 rfl ?_
  refine zr_callVi (As := [.int s]) (st := []) (c := 51) C (c_Model_isStation X h g s) k_Model_isStation m980 m982 m40 (by decide) (zC_Model X _ _) rfl rfl (by decide) rfl (Nat.le_of_ble_eq_true rfl) d_X7_station_2 ?_
  refine zr_ifz_ne C 10 d_X7_station_5 (by decide) (fun c5 => ?_) (fun c5 => ?_)
  · have ex1 := zist hf0 c5
    have ex1_2 := ex1.2
    have ex1_b := (hf0).1
    refine zr_aload_n C d_X7_station_10 rfl ?_
    refine zr_aload_n C d_X7_station_11 rfl ?_
    refine gf_Model_4 C m757 d_X7_station_12 ?_
    refine zr_aload_n C d_X7_station_15 rfl ?_
    refine zr_callVi (As := []) (st := [zR X 54, zR X 51]) (c := 51) C (c_Model_all X h g ) k_Model_all m901 m903 m25 (by decide) (zC_Model X _ _) rfl rfl (by decide) rfl (Nat.le_of_ble_eq_true rfl) d_X7_station_16 ?_
    refine zr_callVv (As := [zR X 54, .int (o_Model_all h)]) (st := []) (c := 51) C (c_Model_layNear X h g 54 (o_Model_all h) (by decide) hf0) k_Model_layNear m905 m907 m26 (by decide) (zC_Model X _ _) rfl rfl (by decide) rfl (Nat.le_of_ble_eq_true rfl) d_X7_station_19 ?_
    refine zr_h (fun h2 eh2 => ?_)
    refine zr_iload_n C d_X7_station_22 rfl ?_
    by_cases c23_0 : what = 0
    · refine zr_tabIn C 76 (off := 53) d_X7_station_23 (by rw [c23_0]; decide) (by rw [c23_0]; decide) (by rw [c23_0]; rfl) (by decide) ?_
      refine zr_aload_n C d_X7_station_76 rfl ?_
      refine gf_Model_3 C m756 d_X7_station_77 ?_
      refine zr_iload_n C d_X7_station_80 rfl ?_
      refine zr_iald C za_53 (zcn s) (zix ex1.1) (by omega) (by decide) d_X7_station_81 ?_
      refine zr_top ((congrFun (congrFun eh2.symm _) _).trans (fr_Model_layNear _ _ (by omega) (by omega))) ?_
      have eR : o_Model_station h s what = ((h 53 (zcn s)), h2) := (by subst eh2; unfold o_Model_station; rw [if_pos c5, if_pos c23_0])
      subst hQ
      exact zTQ_Ih eR (zr_ireti C d_X7_station_82)
    · by_cases c23_1 : what = 1
      · refine zr_tabIn C 83 (off := 60) d_X7_station_23 (by rw [c23_1]; decide) (by rw [c23_1]; decide) (by rw [c23_1]; rfl) (by decide) ?_
        refine zr_aload_n C d_X7_station_83 rfl ?_
        refine gf_Model_4 C m757 d_X7_station_84 ?_
        refine zr_iload_n C d_X7_station_87 rfl ?_
        refine zr_iald C za_54 (zcn s) (zix ex1.1) (by omega) (by decide) d_X7_station_88 ?_
        refine zr_top ((congrFun (congrFun eh2.symm _) _).trans (fr_Model_layNear _ _ (by omega) (by omega))) ?_
        have eR : o_Model_station h s what = ((h 54 (zcn s)), h2) := (by subst eh2; unfold o_Model_station; rw [if_pos c5, if_neg c23_0, if_pos c23_1])
        subst hQ
        exact zTQ_Ih eR (zr_ireti C d_X7_station_89)
      · by_cases c23_2 : what = 2
        · refine zr_tabIn C 90 (off := 67) d_X7_station_23 (by rw [c23_2]; decide) (by rw [c23_2]; decide) (by rw [c23_2]; rfl) (by decide) ?_
          refine zr_aload_n C d_X7_station_90 rfl ?_
          refine gf_Model_4 C m757 d_X7_station_91 ?_
          refine zr_bipush C (v := 8) d_X7_station_94 (by decide) ?_
          refine zr_iload_n C d_X7_station_96 rfl ?_
          refine zr_iadd C d_X7_station_97 ?_
          refine zr_iald C za_54 (8 + (zcn s)) (zn_add rfl (zix ex1.1)) (by omega) (by decide) d_X7_station_98 ?_
          refine zr_top ((congrFun (congrFun eh2.symm _) _).trans (fr_Model_layNear _ _ (by omega) (by omega))) ?_
          have eR : o_Model_station h s what = ((h 54 (8 + (zcn s))), h2) := (by subst eh2; unfold o_Model_station; rw [if_pos c5, if_neg c23_0, if_neg c23_1, if_pos c23_2])
          subst hQ
          exact zTQ_Ih eR (zr_ireti C d_X7_station_99)
        · by_cases c23_3 : what = 3
          · refine zr_tabIn C 100 (off := 77) d_X7_station_23 (by rw [c23_3]; decide) (by rw [c23_3]; decide) (by rw [c23_3]; rfl) (by decide) ?_
            refine zr_aload_n C d_X7_station_100 rfl ?_
            refine zr_aload_n C d_X7_station_101 rfl ?_
            refine gf_Model_4 C m757 d_X7_station_102 ?_
            refine zr_iload_n C d_X7_station_105 rfl ?_
            refine zr_callVi (As := [zR X 54, .int s]) (st := []) (c := 51) C (c_Model_ticks X h2 g 54 (zcn s) (zix ex1.1) (by decide) (by omega) (zper_fr1 ((congrFun (congrFun eh2.symm _) _).trans (fr_Model_layNear _ _ (by omega) (by omega))) (hper (zcn s) (by omega)))) k_Model_ticks m924 m926 m30 (by decide) (zC_Model X _ _) rfl rfl (by decide) rfl (Nat.le_of_ble_eq_true rfl) d_X7_station_106 ?_
            refine zr_top (rd_Model_ticks (funext fun kk => ((congrFun (congrFun eh2.symm _) _).trans (fr_Model_layNear _ _ (by omega) (by omega)))) (funext fun kk => ((congrFun (congrFun eh2.symm _) _).trans (fr_Model_layNear _ _ (by omega) (by omega))))) ?_
            have eR : o_Model_station h s what = ((o_Model_ticks h 54 (zcn s)), h2) := (by subst eh2; unfold o_Model_station; rw [if_pos c5, if_neg c23_0, if_neg c23_1, if_neg c23_2, if_pos c23_3])
            subst hQ
            exact zTQ_Ih eR (zr_ireti C d_X7_station_109)
          · by_cases c23_4 : what = 4
            · refine zr_tabIn C 110 (off := 87) d_X7_station_23 (by rw [c23_4]; decide) (by rw [c23_4]; decide) (by rw [c23_4]; rfl) (by decide) ?_
              refine zr_aload_n C d_X7_station_110 rfl ?_
              refine zr_aload_n C d_X7_station_111 rfl ?_
              refine gf_Model_4 C m757 d_X7_station_112 ?_
              refine zr_iload_n C d_X7_station_115 rfl ?_
              refine zr_callVi (As := [zR X 54, .int s]) (st := []) (c := 51) C (c_Model_held X h2 g 54 (zcn s) (zix ex1.1) (by decide) (by omega) (zper_fr1 ((congrFun (congrFun eh2.symm _) _).trans (fr_Model_layNear _ _ (by omega) (by omega))) (hper (zcn s) (by omega)))) k_Model_held m949 m951 m34 (by decide) (zC_Model X _ _) rfl rfl (by decide) rfl (Nat.le_of_ble_eq_true rfl) d_X7_station_116 ?_
              refine zr_top (rd_Model_held (funext fun kk => ((congrFun (congrFun eh2.symm _) _).trans (fr_Model_layNear _ _ (by omega) (by omega)))) (funext fun kk => ((congrFun (congrFun eh2.symm _) _).trans (fr_Model_layNear _ _ (by omega) (by omega))))) ?_
              have eR : o_Model_station h s what = ((o_Model_held h 54 (zcn s)), h2) := (by subst eh2; unfold o_Model_station; rw [if_pos c5, if_neg c23_0, if_neg c23_1, if_neg c23_2, if_neg c23_3, if_pos c23_4])
              subst hQ
              exact zTQ_Ih eR (zr_ireti C d_X7_station_119)
            · by_cases c23_5 : what = 5
              · refine zr_tabIn C 120 (off := 97) d_X7_station_23 (by rw [c23_5]; decide) (by rw [c23_5]; decide) (by rw [c23_5]; rfl) (by decide) ?_
                refine zr_aload_n C d_X7_station_120 rfl ?_
                refine gf_Model_4 C m757 d_X7_station_121 ?_
                refine zr_bipush C (v := 16) d_X7_station_124 (by decide) ?_
                refine zr_iload_n C d_X7_station_126 rfl ?_
                refine zr_iadd C d_X7_station_127 ?_
                refine zr_iald C za_54 (16 + (zcn s)) (zn_add rfl (zix ex1.1)) (by omega) (by decide) d_X7_station_128 ?_
                refine zr_top ((congrFun (congrFun eh2.symm _) _).trans (fr_Model_layNear _ _ (by omega) (by omega))) ?_
                have eR : o_Model_station h s what = ((h 54 (16 + (zcn s))), h2) := (by subst eh2; unfold o_Model_station; rw [if_pos c5, if_neg c23_0, if_neg c23_1, if_neg c23_2, if_neg c23_3, if_neg c23_4, if_pos c23_5])
                subst hQ
                exact zTQ_Ih eR (zr_ireti C d_X7_station_129)
              · by_cases c23_6 : what = 6
                · refine zr_tabIn C 130 (off := 107) d_X7_station_23 (by rw [c23_6]; decide) (by rw [c23_6]; decide) (by rw [c23_6]; rfl) (by decide) ?_
                  refine zr_aload_n C d_X7_station_130 rfl ?_
                  refine gf_Model_25 C m778 d_X7_station_131 ?_
                  refine zr_iload_n C d_X7_station_134 rfl ?_
                  refine zr_iald C za_66 (zcn s) (zix ex1.1) (by omega) (by decide) d_X7_station_135 ?_
                  have eR : o_Model_station h s what = ((h2 66 (zcn s)), h2) := (by subst eh2; unfold o_Model_station; rw [if_pos c5, if_neg c23_0, if_neg c23_1, if_neg c23_2, if_neg c23_3, if_neg c23_4, if_neg c23_5, if_pos c23_6])
                  subst hQ
                  exact zTQ_Ih eR (zr_ireti C d_X7_station_136)
                · by_cases c23_7 : what = 7
                  · refine zr_tabIn C 137 (off := 114) d_X7_station_23 (by rw [c23_7]; decide) (by rw [c23_7]; decide) (by rw [c23_7]; rfl) (by decide) ?_
                    refine zr_iload_n C d_X7_station_137 rfl ?_
                    refine zr_aload_n C d_X7_station_138 rfl ?_
                    refine gf_Model_4 C m757 d_X7_station_139 ?_
                    refine zr_bipush C (v := 24) d_X7_station_142 (by decide) ?_
                    refine zr_iald C za_54 (24) rfl (by omega) (by decide) d_X7_station_144 ?_
                    refine zr_top ((congrFun (congrFun eh2.symm _) _).trans (fr_Model_layNear _ _ (by omega) (by omega))) ?_
                    refine zr_callSi (As := [.int s, .int (h 54 24)]) (st := []) C (c_Model_drawOf X h2 g s (h 54 24)) k_Model_drawOf m946 m947 rfl (by decide) rfl (Nat.le_of_ble_eq_true rfl) d_X7_station_145 ?_
                    have eR : o_Model_station h s what = ((o_Model_drawOf s (h 54 24)), h2) := (by subst eh2; unfold o_Model_station; rw [if_pos c5, if_neg c23_0, if_neg c23_1, if_neg c23_2, if_neg c23_3, if_neg c23_4, if_neg c23_5, if_neg c23_6, if_pos c23_7])
                    subst hQ
                    exact zTQ_Ih eR (zr_ireti C d_X7_station_148)
                  · by_cases c23_8 : what = 8
                    · refine zr_tabIn C 149 (off := 126) d_X7_station_23 (by rw [c23_8]; decide) (by rw [c23_8]; decide) (by rw [c23_8]; rfl) (by decide) ?_
                      refine zr_aload_n C d_X7_station_149 rfl ?_
                      refine zr_aload_n C d_X7_station_150 rfl ?_
                      refine gf_Model_4 C m757 d_X7_station_151 ?_
                      refine zr_iload_n C d_X7_station_154 rfl ?_
                      refine zr_callVi (As := [zR X 54, .int s]) (st := []) (c := 51) C (c_Model_free X h2 g 54 (zcn s) (zix ex1.1) (by decide) (zfit_fr ((congrFun (congrFun eh2.symm _) _).trans (fr_Model_layNear _ _ (by omega) (by omega))) hf0) (zper_fr ((congrFun (congrFun eh2.symm _) _).trans (fr_Model_layNear _ _ (by omega) (by omega))) (fun v => ((congrFun (congrFun eh2.symm _) _).trans (fr_Model_layNear _ _ (by omega) (by omega)))) hper) (by omega) (zper_fr1 ((congrFun (congrFun eh2.symm _) _).trans (fr_Model_layNear _ _ (by omega) (by omega))) (hper (zcn s) (by omega)))) k_Model_free m961 m963 m37 (by decide) (zC_Model X _ _) rfl rfl (by decide) rfl (Nat.le_of_ble_eq_true rfl) d_X7_station_155 ?_
                      have eR : o_Model_station h s what = ((o_Model_free h2 54 (zcn s)), h2) := (by subst eh2; unfold o_Model_station; rw [if_pos c5, if_neg c23_0, if_neg c23_1, if_neg c23_2, if_neg c23_3, if_neg c23_4, if_neg c23_5, if_neg c23_6, if_neg c23_7, if_pos c23_8])
                      subst hQ
                      exact zTQ_Ih eR (zr_ireti C d_X7_station_158)
                    · by_cases c23_9 : what = 9
                      · refine zr_tabIn C 159 (off := 136) d_X7_station_23 (by rw [c23_9]; decide) (by rw [c23_9]; decide) (by rw [c23_9]; rfl) (by decide) ?_
                        refine zr_aload_n C d_X7_station_159 rfl ?_
                        refine zr_aload_n C d_X7_station_160 rfl ?_
                        refine gf_Model_4 C m757 d_X7_station_161 ?_
                        refine zr_iload_n C d_X7_station_164 rfl ?_
                        refine zr_callVi (As := [zR X 54, .int s]) (st := []) (c := 51) C (c_Model_netOf X h2 g 54 s (by decide) (zfit_fr ((congrFun (congrFun eh2.symm _) _).trans (fr_Model_layNear _ _ (by omega) (by omega))) hf0)) k_Model_netOf m969 m971 m39 (by decide) (zC_Model X _ _) rfl rfl (by decide) rfl (Nat.le_of_ble_eq_true rfl) d_X7_station_165 ?_
                        refine zr_top (rd_Model_netOf ((congrFun (congrFun eh2.symm _) _).trans (fr_Model_layNear _ _ (by omega) (by omega))) (funext fun kk => ((congrFun (congrFun eh2.symm _) _).trans (fr_Model_layNear _ _ (by omega) (by omega))))) ?_
                        have eR : o_Model_station h s what = ((o_Model_netOf h 54 s), h2) := (by subst eh2; unfold o_Model_station; rw [if_pos c5, if_neg c23_0, if_neg c23_1, if_neg c23_2, if_neg c23_3, if_neg c23_4, if_neg c23_5, if_neg c23_6, if_neg c23_7, if_neg c23_8, if_pos c23_9])
                        subst hQ
                        exact zTQ_Ih eR (zr_ireti C d_X7_station_168)
                      · have w23_0 : (what : Int32).toInt ≠ 0 := zne_toInt c23_0 (by decide)
                        have w23_1 : (what : Int32).toInt ≠ 1 := zne_toInt c23_1 (by decide)
                        have w23_2 : (what : Int32).toInt ≠ 2 := zne_toInt c23_2 (by decide)
                        have w23_3 : (what : Int32).toInt ≠ 3 := zne_toInt c23_3 (by decide)
                        have w23_4 : (what : Int32).toInt ≠ 4 := zne_toInt c23_4 (by decide)
                        have w23_5 : (what : Int32).toInt ≠ 5 := zne_toInt c23_5 (by decide)
                        have w23_6 : (what : Int32).toInt ≠ 6 := zne_toInt c23_6 (by decide)
                        have w23_7 : (what : Int32).toInt ≠ 7 := zne_toInt c23_7 (by decide)
                        have w23_8 : (what : Int32).toInt ≠ 8 := zne_toInt c23_8 (by decide)
                        have w23_9 : (what : Int32).toInt ≠ 9 := zne_toInt c23_9 (by decide)
                        refine zr_tabOut C 169 d_X7_station_23 (by omega) (by decide) ?_
                        refine zr_bipush C (v := (-2)) d_X7_station_169 (by decide) ?_
                        have eR : o_Model_station h s what = ((-2), h2) := (by subst eh2; unfold o_Model_station; rw [if_pos c5, if_neg c23_0, if_neg c23_1, if_neg c23_2, if_neg c23_3, if_neg c23_4, if_neg c23_5, if_neg c23_6, if_neg c23_7, if_neg c23_8, if_neg c23_9])
                        subst hQ
                        exact zTQ_Ih eR (zr_ireti C d_X7_station_171)
  · refine zr_iconst C (v := (-1)) d_X7_station_8 (by decide) ?_
    have eR : o_Model_station h s what = ((-1), h) := (by unfold o_Model_station; rw [if_neg (zbf c5)])
    subst hQ
    exact zTQ_Ih eR (zr_ireti C d_X7_station_9)
theorem d_X7_note_0 : decode prog_9_method_47_code 0 = .ok (.iconst 0, 1) := by decide +kernel
theorem d_X7_note_1 : decode prog_9_method_47_code 1 = .ok (.istore_n 1, 1) := by decide +kernel
theorem d_X7_note_2 : decode prog_9_method_47_code 2 = .ok (.iload_n 1, 1) := by decide +kernel
theorem d_X7_note_3 : decode prog_9_method_47_code 3 = .ok (.bipush 25, 2) := by decide +kernel
theorem d_X7_note_5 : decode prog_9_method_47_code 5 = .ok (.if_icmp .ge 29, 3) := by decide +kernel
theorem d_X7_note_8 : decode prog_9_method_47_code 8 = .ok (.aload_n 0, 1) := by decide +kernel
theorem d_X7_note_9 : decode prog_9_method_47_code 9 = .ok (.getfield 25, 3) := by decide +kernel
theorem d_X7_note_12 : decode prog_9_method_47_code 12 = .ok (.bipush 25, 2) := by decide +kernel
theorem d_X7_note_14 : decode prog_9_method_47_code 14 = .ok (.aload_n 0, 1) := by decide +kernel
theorem d_X7_note_15 : decode prog_9_method_47_code 15 = .ok (.getfield 215, 3) := by decide +kernel
theorem d_X7_note_18 : decode prog_9_method_47_code 18 = .ok (.imul, 1) := by decide +kernel
theorem d_X7_note_19 : decode prog_9_method_47_code 19 = .ok (.iload_n 1, 1) := by decide +kernel
theorem d_X7_note_20 : decode prog_9_method_47_code 20 = .ok (.iadd, 1) := by decide +kernel
theorem d_X7_note_21 : decode prog_9_method_47_code 21 = .ok (.aload_n 0, 1) := by decide +kernel
theorem d_X7_note_22 : decode prog_9_method_47_code 22 = .ok (.getfield 16, 3) := by decide +kernel
theorem d_X7_note_25 : decode prog_9_method_47_code 25 = .ok (.iload_n 1, 1) := by decide +kernel
theorem d_X7_note_26 : decode prog_9_method_47_code 26 = .ok (.iaload, 1) := by decide +kernel
theorem d_X7_note_27 : decode prog_9_method_47_code 27 = .ok (.iastore, 1) := by decide +kernel
theorem d_X7_note_28 : decode prog_9_method_47_code 28 = .ok (.iinc 1 1, 3) := by decide +kernel
theorem d_X7_note_31 : decode prog_9_method_47_code 31 = .ok (.goto (-29), 3) := by decide +kernel
theorem d_X7_note_34 : decode prog_9_method_47_code 34 = .ok (.aload_n 0, 1) := by decide +kernel
theorem d_X7_note_35 : decode prog_9_method_47_code 35 = .ok (.aload_n 0, 1) := by decide +kernel
theorem d_X7_note_36 : decode prog_9_method_47_code 36 = .ok (.getfield 215, 3) := by decide +kernel
theorem d_X7_note_39 : decode prog_9_method_47_code 39 = .ok (.iconst 1, 1) := by decide +kernel
theorem d_X7_note_40 : decode prog_9_method_47_code 40 = .ok (.iadd, 1) := by decide +kernel
theorem d_X7_note_41 : decode prog_9_method_47_code 41 = .ok (.bipush 14, 2) := by decide +kernel
theorem d_X7_note_43 : decode prog_9_method_47_code 43 = .ok (.irem, 1) := by decide +kernel
theorem d_X7_note_44 : decode prog_9_method_47_code 44 = .ok (.putfield 215, 3) := by decide +kernel
theorem d_X7_note_47 : decode prog_9_method_47_code 47 = .ok (.aload_n 0, 1) := by decide +kernel
theorem d_X7_note_48 : decode prog_9_method_47_code 48 = .ok (.aload_n 0, 1) := by decide +kernel
theorem d_X7_note_49 : decode prog_9_method_47_code 49 = .ok (.getfield 124, 3) := by decide +kernel
theorem d_X7_note_52 : decode prog_9_method_47_code 52 = .ok (.bipush 14, 2) := by decide +kernel
theorem d_X7_note_54 : decode prog_9_method_47_code 54 = .ok (.if_icmp .ge 12, 3) := by decide +kernel
theorem d_X7_note_57 : decode prog_9_method_47_code 57 = .ok (.aload_n 0, 1) := by decide +kernel
theorem d_X7_note_58 : decode prog_9_method_47_code 58 = .ok (.getfield 124, 3) := by decide +kernel
theorem d_X7_note_61 : decode prog_9_method_47_code 61 = .ok (.iconst 1, 1) := by decide +kernel
theorem d_X7_note_62 : decode prog_9_method_47_code 62 = .ok (.iadd, 1) := by decide +kernel
theorem d_X7_note_63 : decode prog_9_method_47_code 63 = .ok (.goto 5, 3) := by decide +kernel
theorem d_X7_note_66 : decode prog_9_method_47_code 66 = .ok (.bipush 14, 2) := by decide +kernel
theorem d_X7_note_68 : decode prog_9_method_47_code 68 = .ok (.putfield 124, 3) := by decide +kernel
theorem d_X7_note_71 : decode prog_9_method_47_code 71 = .ok (.return_, 1) := by decide +kernel
abbrev M_Model_note : zMT := (⟨"PeriodSlotsModel", "note", "()V"⟩, prog_9_method_47_code, 2, none)
theorem k_Model_note : zcall M_Model_note 0 := ⟨zU_in (i := 991) (by decide +kernel) rfl, m62, ⟨by decide, by decide, by decide +kernel⟩, by decide⟩
def o_Model_note (h : zHp) : zHp :=
  (zup (zup (zrep (fun (i2_1 : Nat) (s2_1 : zHp) => (zup s2_1 57 ((25 * (zcn (h 51 3))) + i2_1) (h 54 i2_1))) h 25) 51 3 (zrem ((h 51 3) + 1) 14)) 51 2 (if 14 ≤ (h 51 2) then 14 else ((h 51 2) + 1)))
theorem fr_Model_note {h : zHp} (c k : Nat) (q0 : ¬ (c = 51 ∧ k = 2)) (q1 : ¬ (c = 51 ∧ k = 3)) (q2 : c ≠ 57) : (o_Model_note h) c k = h c k := by
  unfold o_Model_note
  have hI2_1 := zrep_inv (f := (fun (i2_1 : Nat) (s2_1 : zHp) => (zup s2_1 57 ((25 * (zcn (h 51 3))) + i2_1) (h 54 i2_1)))) (a := h) (fun _ s2_1 => ∀ c k : Nat, c ≠ 57 → s2_1 c k = h c k) (25) (fun _ _ _ => rfl) (fun i2_1 s2_1 hi2_1 hI2_1 => (fun c k q0 => (by (try dsimp only); exact ((zup_fr (Or.inl (by assumption))).trans (hI2_1 _ _ (by assumption))))))
  first | done | exact ((zup_fr (by omega)).trans ((zup_fr (by omega)).trans (hI2_1 _ _ (by assumption))))
set_option maxHeartbeats 400000 in
set_option maxRecDepth 20000 in
theorem c_Model_note (X : zXT) (h : zHp) (g : zLg) (hf0 : zfit h 51 3 13) : zDi X M_Model_note 0 [zR X 51] h g none (o_Model_note h) g := by
  have hf0_1 := hf0.1
  refine zDi_of "PeriodSlotsModel" prog_9_method_47_code 2 none rfl (by decide) [zO X 51, none] rfl (fun _ q => q) (Nat.le_of_ble_eq_true rfl) ?_
  intro Γ Q C hQ
  refine zr_iconst C (v := 0) d_X7_note_0 (by decide) ?_
  refine zr_istore_n C [zO X 51, zI 0] d_X7_note_1 (Nat.le_of_ble_eq_true rfl) rfl rfl ?_
  refine zfor (f := (fun (i2_1 : Nat) (s2_1 : zHp) => (zup s2_1 57 ((25 * (zcn (h 51 3))) + i2_1) (h 54 i2_1)))) (a := h) (fun i2_1 s2_1 => zV X Γ Q 2 [zO X 51, zI (nI i2_1)] [] s2_1 g) (fun _ s2_1 => ∀ c k : Nat, c ≠ 57 → s2_1 c k = h c k) (25) (fun _ _ _ => rfl) (fun i2_1 s2_1 hi2_1 hI2_1 => ⟨(fun c k q0 => (by (try dsimp only); exact ((zup_fr (Or.inl (by assumption))).trans (hI2_1 _ _ (by assumption))))), fun hk2_1 => ?_⟩) (fun r2_1 er2_1 hI2_1 => ?_)
  · refine zr_iload_n C d_X7_note_2 rfl ?_
    refine zr_bipush C (v := 25) d_X7_note_3 (by decide) ?_
    refine zr_icmp_ge C 34 d_X7_note_5 (by decide) (fun c => absurd c (zge_noN (B := 25) rfl (by omega) (by omega))) (fun _ => ?_)
    refine zr_aload_n C d_X7_note_8 rfl ?_
    refine gf_Model_7 C m760 d_X7_note_9 ?_
    refine zr_bipush C (v := 25) d_X7_note_12 (by decide) ?_
    refine zr_aload_n C d_X7_note_14 rfl ?_
    refine gf_Model_9 C m762 d_X7_note_15 ?_
    refine zr_top (hI2_1 _ _ (by omega)) ?_
    refine zr_imul C d_X7_note_18 ?_
    refine zr_iload_n C d_X7_note_19 rfl ?_
    refine zr_iadd C d_X7_note_20 ?_
    refine zr_aload_n C d_X7_note_21 rfl ?_
    refine gf_Model_4 C m757 d_X7_note_22 ?_
    refine zr_iload_n C d_X7_note_25 rfl ?_
    refine zr_iald C za_54 (i2_1) rfl (by omega) (by decide) d_X7_note_26 ?_
    refine zr_top (hI2_1 _ _ (by omega)) ?_
    refine zr_iast C za_57 ((25 * (zcn (h 51 3))) + i2_1) (zn_add (zn_mul rfl hf0.2) rfl) (by omega) (by decide) d_X7_note_27 ?_
    refine zr_h (fun h2 eh2 => ?_)
    refine zr_iinc C [zO X 51, zI (nI (i2_1 + 1))] (v := (nI (i2_1 + 1))) d_X7_note_28 rfl (zn_add rfl rfl) (Nat.le_of_ble_eq_true rfl) rfl rfl ?_
    refine zr_goto C 2 d_X7_note_31 (by decide) ?_
    exact hk2_1 h2 (by subst eh2; exact rfl)
  refine zr_iload_n C d_X7_note_2 rfl ?_
  refine zr_bipush C (v := 25) d_X7_note_3 (by decide) ?_
  refine zr_icmp_ge C 34 d_X7_note_5 (by decide) (fun _ => ?_) (fun c => absurd (zge_yesN (B := 25) rfl (by omega) (by omega)) c)
  refine zr_aload_n C d_X7_note_34 rfl ?_
  refine zr_aload_n C d_X7_note_35 rfl ?_
  refine gf_Model_9 C m762 d_X7_note_36 ?_
  refine zr_top (hI2_1 _ _ (by omega)) ?_
  refine zr_iconst C (v := 1) d_X7_note_39 (by decide) ?_
  refine zr_iadd C d_X7_note_40 ?_
  refine zr_bipush C (v := 14) d_X7_note_41 (by decide) ?_
  refine zr_irem C d_X7_note_43 (by decide) ?_
  refine pf_Model_9 C m762 d_X7_note_44 ?_
  refine zr_h (fun h3 eh3 => ?_)
  refine zr_aload_n C d_X7_note_47 rfl ?_
  refine zr_aload_n C d_X7_note_48 rfl ?_
  refine gf_Model_8 C m761 d_X7_note_49 ?_
  refine zr_top ((congrFun (congrFun eh3.symm _) _).trans ((zup_fr (by omega)).trans (hI2_1 _ _ (by omega)))) ?_
  refine zr_bipush C (v := 14) d_X7_note_52 (by decide) ?_
  suffices hJ54 : ∀ (y4 : Int32), (if 14 ≤ (h 51 2) then 14 else ((h 51 2) + 1)) = y4 → zV X Γ Q 68 [none, none] [.int y4, zR X 51] h3 g by
    refine zr_icmp_ge C 66 d_X7_note_54 (by decide) (fun c54 => ?_) (fun c54 => ?_)
    · refine zr_bipush C (v := 14) d_X7_note_66 (by decide) ?_
      refine zr_lv [none, none] (by simp [zle]) ?_
      exact hJ54 14 (((if_pos c54)))
    · refine zr_aload_n C d_X7_note_57 rfl ?_
      refine gf_Model_8 C m761 d_X7_note_58 ?_
      refine zr_top ((congrFun (congrFun eh3.symm _) _).trans ((zup_fr (by omega)).trans (hI2_1 _ _ (by omega)))) ?_
      refine zr_iconst C (v := 1) d_X7_note_61 (by decide) ?_
      refine zr_iadd C d_X7_note_62 ?_
      refine zr_goto C 68 d_X7_note_63 (by decide) ?_
      refine zr_lv [none, none] (by simp [zle]) ?_
      exact hJ54 ((h 51 2) + 1) (((if_neg c54)))
  intro y4 ey4
  refine pf_Model_8 C m761 d_X7_note_68 ?_
  refine zr_h (fun h5 eh5 => ?_)
  have eR : o_Model_note h = h5 := (by subst eh5 ey4 eh3 er2_1; unfold o_Model_note; exact rfl)
  subst hQ
  rw [eR]
  exact zr_vret C d_X7_note_71
theorem d_X7_round_0 : decode prog_9_method_48_code 0 = .ok (.aload_n 0, 1) := by decide +kernel
theorem d_X7_round_1 : decode prog_9_method_48_code 1 = .ok (.invokevirtual 218, 3) := by decide +kernel
theorem d_X7_round_4 : decode prog_9_method_48_code 4 = .ok (.aload_n 0, 1) := by decide +kernel
theorem d_X7_round_5 : decode prog_9_method_48_code 5 = .ok (.aload_n 0, 1) := by decide +kernel
theorem d_X7_round_6 : decode prog_9_method_48_code 6 = .ok (.getfield 16, 3) := by decide +kernel
theorem d_X7_round_9 : decode prog_9_method_48_code 9 = .ok (.aload_n 0, 1) := by decide +kernel
theorem d_X7_round_10 : decode prog_9_method_48_code 10 = .ok (.invokevirtual 159, 3) := by decide +kernel
theorem d_X7_round_13 : decode prog_9_method_48_code 13 = .ok (.invokevirtual 162, 3) := by decide +kernel
theorem d_X7_round_16 : decode prog_9_method_48_code 16 = .ok (.aload_n 0, 1) := by decide +kernel
theorem d_X7_round_17 : decode prog_9_method_48_code 17 = .ok (.aload_n 0, 1) := by decide +kernel
theorem d_X7_round_18 : decode prog_9_method_48_code 18 = .ok (.getfield 16, 3) := by decide +kernel
theorem d_X7_round_21 : decode prog_9_method_48_code 21 = .ok (.invokevirtual 188, 3) := by decide +kernel
theorem d_X7_round_24 : decode prog_9_method_48_code 24 = .ok (.ireturn, 1) := by decide +kernel
abbrev M_Model_round : zMT := (⟨"PeriodSlotsModel", "round", "()I"⟩, prog_9_method_48_code, 1, (some .int))
theorem k_Model_round : zcall M_Model_round 0 := ⟨zU_in (i := 987) (by decide +kernel) rfl, m62, ⟨by decide, by decide, by decide +kernel⟩, by decide⟩
def o_Model_round (h : zHp) : Int32 × zHp :=
  (((o_Model_roundOf (o_Model_layNear (o_Model_note h) 54 (o_Model_all h)) 54).1), ((o_Model_roundOf (o_Model_layNear (o_Model_note h) 54 (o_Model_all h)) 54).2))
theorem fr_Model_round {h : zHp} (c k : Nat) (q0 : ¬ (c = 51 ∧ k = 2)) (q1 : ¬ (c = 51 ∧ k = 3)) (q2 : c ≠ 57) (q3 : ¬ (c = 51 ∧ k = 9)) (q4 : c ≠ 66) (q5 : c ≠ 54) (q6 : ¬ (c = 51 ∧ k = 10)) (q7 : c ≠ 67) (q8 : c ≠ 68) : (o_Model_round h).2 c k = h c k := by
  unfold o_Model_round
  try dsimp only
  first | done | exact ((fr_Model_roundOf _ _ (by assumption) (by assumption) (by assumption) (by assumption)).trans ((fr_Model_layNear _ _ (by assumption) (by assumption)).trans (fr_Model_note _ _ (by assumption) (by assumption) (by assumption))))
set_option maxHeartbeats 400000 in
set_option maxRecDepth 20000 in
theorem c_Model_round (X : zXT) (h : zHp) (g : zLg) (hf0 : zfit h 51 1 8) (hper : zper h) (hf2 : zfit h 51 3 13) : zDi X M_Model_round 7 [zR X 51] h g (zI ((o_Model_round h).1)) ((o_Model_round h).2) g := by
  have hf0_1 := hf0.1
  have hf2_1 := hf2.1
  refine zDi_of "PeriodSlotsModel" prog_9_method_48_code 1 (some .int) rfl (by decide) [zO X 51] rfl (fun _ q => q) (Nat.le_of_ble_eq_true rfl) ?_
  intro Γ Q C hQ
  refine zr_aload_n C d_X7_round_0 rfl ?_
  refine zr_callVv (As := []) (st := []) (c := 51) C (c_Model_note X h g hf2) k_Model_note m988 m990 m41 (by decide) (zC_Model X _ _) rfl rfl (by decide) rfl (Nat.le_of_ble_eq_true rfl) d_X7_round_1 ?_
  refine zr_h (fun h1 eh1 => ?_)
  refine zr_aload_n C d_X7_round_4 rfl ?_
  refine zr_aload_n C d_X7_round_5 rfl ?_
  refine gf_Model_4 C m757 d_X7_round_6 ?_
  refine zr_aload_n C d_X7_round_9 rfl ?_
  refine zr_callVi (As := []) (st := [zR X 54, zR X 51]) (c := 51) C (c_Model_all X h1 g ) k_Model_all m901 m903 m25 (by decide) (zC_Model X _ _) rfl rfl (by decide) rfl (Nat.le_of_ble_eq_true rfl) d_X7_round_10 ?_
  refine zr_top (rd_Model_all ((congrFun (congrFun eh1.symm _) _).trans (fr_Model_note _ _ (by omega) (by omega) (by omega)))) ?_
  refine zr_callVv (As := [zR X 54, .int (o_Model_all h)]) (st := []) (c := 51) C (c_Model_layNear X h1 g 54 (o_Model_all h) (by decide) (zfit_fr ((congrFun (congrFun eh1.symm _) _).trans (fr_Model_note _ _ (by omega) (by omega) (by omega))) hf0)) k_Model_layNear m905 m907 m26 (by decide) (zC_Model X _ _) rfl rfl (by decide) rfl (Nat.le_of_ble_eq_true rfl) d_X7_round_13 ?_
  refine zr_h (fun h2 eh2 => ?_)
  refine zr_aload_n C d_X7_round_16 rfl ?_
  refine zr_aload_n C d_X7_round_17 rfl ?_
  refine gf_Model_4 C m757 d_X7_round_18 ?_
  refine zr_callVi (As := [zR X 54]) (st := []) (c := 51) C (c_Model_roundOf X h2 g 54 (by decide) (zfit_fr ((congrFun (congrFun eh2.symm _) _).trans ((fr_Model_layNear _ _ (by omega) (by omega)).trans ((congrFun (congrFun eh1.symm _) _).trans (fr_Model_note _ _ (by omega) (by omega) (by omega))))) hf0) (zper_fr ((congrFun (congrFun eh2.symm _) _).trans ((fr_Model_layNear _ _ (by omega) (by omega)).trans ((congrFun (congrFun eh1.symm _) _).trans (fr_Model_note _ _ (by omega) (by omega) (by omega))))) (fun v => ((congrFun (congrFun eh2.symm _) _).trans ((fr_Model_layNear _ _ (by omega) (by omega)).trans ((congrFun (congrFun eh1.symm _) _).trans (fr_Model_note _ _ (by omega) (by omega) (by omega)))))) hper)) k_Model_roundOf m992 m994 m42 (by decide) (zC_Model X _ _) rfl rfl (by decide) rfl (Nat.le_of_ble_eq_true rfl) d_X7_round_21 ?_
  refine zr_vi (fun y3 ey3 => ?_)
  refine zr_h (fun h4 eh4 => ?_)
  have eR : o_Model_round h = (y3, h4) := (by subst eh4 ey3 eh2 eh1; unfold o_Model_round; exact rfl)
  subst hQ
  exact zTQ_Ih eR (zr_ireti C d_X7_round_24)
theorem d_X7_turn_0 : decode prog_9_method_49_code 0 = .ok (.aload_n 0, 1) := by decide +kernel
theorem d_X7_turn_1 : decode prog_9_method_49_code 1 = .ok (.iload_n 1, 1) := by decide +kernel
theorem d_X7_turn_2 : decode prog_9_method_49_code 2 = .ok (.invokevirtual 212, 3) := by decide +kernel
theorem d_X7_turn_5 : decode prog_9_method_49_code 5 = .ok (.ifCond .eq 11, 3) := by decide +kernel
theorem d_X7_turn_8 : decode prog_9_method_49_code 8 = .ok (.aload_n 0, 1) := by decide +kernel
theorem d_X7_turn_9 : decode prog_9_method_49_code 9 = .ok (.iload_n 2, 1) := by decide +kernel
theorem d_X7_turn_10 : decode prog_9_method_49_code 10 = .ok (.invokevirtual 212, 3) := by decide +kernel
theorem d_X7_turn_13 : decode prog_9_method_49_code 13 = .ok (.ifCond .ne 5, 3) := by decide +kernel
theorem d_X7_turn_16 : decode prog_9_method_49_code 16 = .ok (.iconst (-1), 1) := by decide +kernel
theorem d_X7_turn_17 : decode prog_9_method_49_code 17 = .ok (.ireturn, 1) := by decide +kernel
theorem d_X7_turn_18 : decode prog_9_method_49_code 18 = .ok (.iload_n 1, 1) := by decide +kernel
theorem d_X7_turn_19 : decode prog_9_method_49_code 19 = .ok (.iload_n 2, 1) := by decide +kernel
theorem d_X7_turn_20 : decode prog_9_method_49_code 20 = .ok (.if_icmp .ne 6, 3) := by decide +kernel
theorem d_X7_turn_23 : decode prog_9_method_49_code 23 = .ok (.bipush (-2), 2) := by decide +kernel
theorem d_X7_turn_25 : decode prog_9_method_49_code 25 = .ok (.ireturn, 1) := by decide +kernel
theorem d_X7_turn_26 : decode prog_9_method_49_code 26 = .ok (.aload_n 0, 1) := by decide +kernel
theorem d_X7_turn_27 : decode prog_9_method_49_code 27 = .ok (.invokevirtual 218, 3) := by decide +kernel
theorem d_X7_turn_30 : decode prog_9_method_49_code 30 = .ok (.aload_n 0, 1) := by decide +kernel
theorem d_X7_turn_31 : decode prog_9_method_49_code 31 = .ok (.getfield 16, 3) := by decide +kernel
theorem d_X7_turn_34 : decode prog_9_method_49_code 34 = .ok (.invokestatic 221, 3) := by decide +kernel
theorem d_X7_turn_37 : decode prog_9_method_49_code 37 = .ok (.aload_n 0, 1) := by decide +kernel
theorem d_X7_turn_38 : decode prog_9_method_49_code 38 = .ok (.getfield 16, 3) := by decide +kernel
theorem d_X7_turn_41 : decode prog_9_method_49_code 41 = .ok (.iload_n 1, 1) := by decide +kernel
theorem d_X7_turn_42 : decode prog_9_method_49_code 42 = .ok (.iload_n 2, 1) := by decide +kernel
theorem d_X7_turn_43 : decode prog_9_method_49_code 43 = .ok (.invokestatic 224, 3) := by decide +kernel
theorem d_X7_turn_46 : decode prog_9_method_49_code 46 = .ok (.aload_n 0, 1) := by decide +kernel
theorem d_X7_turn_47 : decode prog_9_method_49_code 47 = .ok (.getfield 16, 3) := by decide +kernel
theorem d_X7_turn_50 : decode prog_9_method_49_code 50 = .ok (.bipush 16, 2) := by decide +kernel
theorem d_X7_turn_52 : decode prog_9_method_49_code 52 = .ok (.iload_n 1, 1) := by decide +kernel
theorem d_X7_turn_53 : decode prog_9_method_49_code 53 = .ok (.iadd, 1) := by decide +kernel
theorem d_X7_turn_54 : decode prog_9_method_49_code 54 = .ok (.iaload, 1) := by decide +kernel
theorem d_X7_turn_55 : decode prog_9_method_49_code 55 = .ok (.iload_n 2, 1) := by decide +kernel
theorem d_X7_turn_56 : decode prog_9_method_49_code 56 = .ok (.ishr, 1) := by decide +kernel
theorem d_X7_turn_57 : decode prog_9_method_49_code 57 = .ok (.iconst 1, 1) := by decide +kernel
theorem d_X7_turn_58 : decode prog_9_method_49_code 58 = .ok (.iand, 1) := by decide +kernel
theorem d_X7_turn_59 : decode prog_9_method_49_code 59 = .ok (.ireturn, 1) := by decide +kernel
abbrev M_Model_turn : zMT := (⟨"PeriodSlotsModel", "turn", "(II)I"⟩, prog_9_method_49_code, 3, (some .int))
theorem k_Model_turn : zcall M_Model_turn 2 := ⟨zU_in (i := 999) (by decide +kernel) rfl, m62, ⟨by decide, by decide, by decide +kernel⟩, by decide⟩
def o_Model_turn (h : zHp) (i : Int32) (j : Int32) : Int32 × zHp :=
  (if (o_Model_isStation h i) = true then (if (o_Model_isStation h j) = true then (if i = j then ((-2), h) else (((zsar ((o_Model_turnOf (o_Model_dropOld (o_Model_note h) 54) 54 (zcn i) (zcn j)) 54 (16 + (zcn i))) j) &&& 1), (o_Model_turnOf (o_Model_dropOld (o_Model_note h) 54) 54 (zcn i) (zcn j)))) else ((-1), h)) else ((-1), h))
theorem fr_Model_turn {h : zHp} {i : Int32} {j : Int32} (c k : Nat) (q0 : ¬ (c = 51 ∧ k = 2)) (q1 : ¬ (c = 51 ∧ k = 3)) (q2 : c ≠ 57) (q3 : c ≠ 54) : (o_Model_turn h i j).2 c k = h c k := by
  unfold o_Model_turn
  by_cases f1 : (o_Model_isStation h i) = true
  · rw [if_pos f1]
    by_cases f2 : (o_Model_isStation h j) = true
    · rw [if_pos f2]
      by_cases f3 : i = j
      · rw [if_pos f3]
        try dsimp only
        first | done | exact rfl
      · rw [if_neg f3]
        try dsimp only
        first | done | exact ((fr_Model_turnOf _ _ (by assumption)).trans ((fr_Model_dropOld _ _ (by assumption)).trans (fr_Model_note _ _ (by assumption) (by assumption) (by assumption))))
    · rw [if_neg f2]
      try dsimp only
      first | done | exact rfl
  · rw [if_neg f1]
    try dsimp only
    first | done | exact rfl
set_option maxHeartbeats 400000 in
set_option maxRecDepth 20000 in
theorem c_Model_turn (X : zXT) (h : zHp) (g : zLg) (i : Int32) (j : Int32) (hf0 : zfit h 51 1 8) (hper : zper h) (hf2 : zfit h 51 3 13) : zDi X M_Model_turn 2 [zR X 51, .int i, .int j] h g (zI ((o_Model_turn h i j).1)) ((o_Model_turn h i j).2) g := by
  have hf0_1 := hf0.1
  have hf2_1 := hf2.1
  refine zDi_of "PeriodSlotsModel" prog_9_method_49_code 3 (some .int) rfl (by decide) [zO X 51, zI i, zI j] rfl (fun _ q => q) (Nat.le_of_ble_eq_true rfl) ?_
  intro Γ Q C hQ
  refine zr_aload_n C d_X7_turn_0 rfl ?_
  refine zr_iload_n C d_X7_turn_1 rfl ?_
  refine zr_callVi (As := [.int i]) (st := []) (c := 51) C (c_Model_isStation X h g i) k_Model_isStation m980 m982 m40 (by decide) (zC_Model X _ _) rfl rfl (by decide) rfl (Nat.le_of_ble_eq_true rfl) d_X7_turn_2 ?_
  refine zr_ifz_eq C 16 d_X7_turn_5 (by decide) (fun c5 => ?_) (fun c5 => ?_)
  · refine zr_iconst C (v := (-1)) d_X7_turn_16 (by decide) ?_
    have eR : o_Model_turn h i j = ((-1), h) := (by unfold o_Model_turn; rw [if_neg (zbf c5)])
    subst hQ
    exact zTQ_Ih eR (zr_ireti C d_X7_turn_17)
  · have ex1 := zist hf0 c5
    have ex1_2 := ex1.2
    have ex1_b := (hf0).1
    refine zr_aload_n C d_X7_turn_8 rfl ?_
    refine zr_iload_n C d_X7_turn_9 rfl ?_
    refine zr_callVi (As := [.int j]) (st := []) (c := 51) C (c_Model_isStation X h g j) k_Model_isStation m980 m982 m40 (by decide) (zC_Model X _ _) rfl rfl (by decide) rfl (Nat.le_of_ble_eq_true rfl) d_X7_turn_10 ?_
    refine zr_ifz_ne C 18 d_X7_turn_13 (by decide) (fun c13 => ?_) (fun c13 => ?_)
    · have ex2 := zist hf0 c13
      have ex2_2 := ex2.2
      have ex2_b := (hf0).1
      refine zr_iload_n C d_X7_turn_18 rfl ?_
      refine zr_iload_n C d_X7_turn_19 rfl ?_
      refine zr_icmp_ne C 26 d_X7_turn_20 (by decide) (fun c20 => ?_) (fun c20 => ?_)
      · have en3 := zn_ne (a := zcn i) (b := zcn j) (zix ex1.1) (zix ex2.1) c20 (zcn_small _) (zcn_small _)
        refine zr_aload_n C d_X7_turn_26 rfl ?_
        refine zr_callVv (As := []) (st := []) (c := 51) C (c_Model_note X h g hf2) k_Model_note m988 m990 m41 (by decide) (zC_Model X _ _) rfl rfl (by decide) rfl (Nat.le_of_ble_eq_true rfl) d_X7_turn_27 ?_
        refine zr_h (fun h4 eh4 => ?_)
        refine zr_aload_n C d_X7_turn_30 rfl ?_
        refine gf_Model_4 C m757 d_X7_turn_31 ?_
        refine zr_callSv (As := [zR X 54]) (st := []) C (c_Model_dropOld X h4 g 54 (by decide)) k_Model_dropOld m1000 m1001 rfl (by decide) rfl (Nat.le_of_ble_eq_true rfl) d_X7_turn_34 ?_
        refine zr_h (fun h5 eh5 => ?_)
        refine zr_aload_n C d_X7_turn_37 rfl ?_
        refine gf_Model_4 C m757 d_X7_turn_38 ?_
        refine zr_iload_n C d_X7_turn_41 rfl ?_
        refine zr_iload_n C d_X7_turn_42 rfl ?_
        refine zr_callSv (As := [zR X 54, .int i, .int j]) (st := []) C (c_Model_turnOf X h5 g 54 (zcn i) (zcn j) (zix ex1.1) (zix ex2.1) (by decide) (by omega) (by omega)) k_Model_turnOf m1003 m1004 rfl (by decide) rfl (Nat.le_of_ble_eq_true rfl) d_X7_turn_43 ?_
        refine zr_h (fun h6 eh6 => ?_)
        refine zr_aload_n C d_X7_turn_46 rfl ?_
        refine gf_Model_4 C m757 d_X7_turn_47 ?_
        refine zr_bipush C (v := 16) d_X7_turn_50 (by decide) ?_
        refine zr_iload_n C d_X7_turn_52 rfl ?_
        refine zr_iadd C d_X7_turn_53 ?_
        refine zr_iald C za_54 (16 + (zcn i)) (zn_add rfl (zix ex1.1)) (by omega) (by decide) d_X7_turn_54 ?_
        refine zr_iload_n C d_X7_turn_55 rfl ?_
        refine zr_ishr C d_X7_turn_56 ?_
        refine zr_iconst C (v := 1) d_X7_turn_57 (by decide) ?_
        refine zr_iand C d_X7_turn_58 ?_
        have eR : o_Model_turn h i j = (((zsar (h6 54 (16 + (zcn i))) j) &&& 1), h6) := (by subst eh6 eh5 eh4; unfold o_Model_turn; rw [if_pos c5, if_pos c13, if_neg c20])
        subst hQ
        exact zTQ_Ih eR (zr_ireti C d_X7_turn_59)
      · have en7 := zn_nne (a := zcn i) (b := zcn j) (zix ex1.1) (zix ex2.1) c20 (zcn_small _) (zcn_small _)
        refine zr_bipush C (v := (-2)) d_X7_turn_23 (by decide) ?_
        have eR : o_Model_turn h i j = ((-2), h) := (by unfold o_Model_turn; rw [if_pos c5, if_pos c13, if_pos c20])
        subst hQ
        exact zTQ_Ih eR (zr_ireti C d_X7_turn_25)
    · refine zr_iconst C (v := (-1)) d_X7_turn_16 (by decide) ?_
      have eR : o_Model_turn h i j = ((-1), h) := (by unfold o_Model_turn; rw [if_pos c5, if_neg (zbf c13)])
      subst hQ
      exact zTQ_Ih eR (zr_ireti C d_X7_turn_17)
theorem d_X7_isOffset_0 : decode prog_9_method_50_code 0 = .ok (.iload_n 2, 1) := by decide +kernel
theorem d_X7_isOffset_1 : decode prog_9_method_50_code 1 = .ok (.bipush (-9), 2) := by decide +kernel
theorem d_X7_isOffset_3 : decode prog_9_method_50_code 3 = .ok (.if_icmp .eq 21, 3) := by decide +kernel
theorem d_X7_isOffset_6 : decode prog_9_method_50_code 6 = .ok (.iload_n 2, 1) := by decide +kernel
theorem d_X7_isOffset_7 : decode prog_9_method_50_code 7 = .ok (.i2l, 1) := by decide +kernel
theorem d_X7_isOffset_8 : decode prog_9_method_50_code 8 = .ok (.lconst 0, 1) := by decide +kernel
theorem d_X7_isOffset_9 : decode prog_9_method_50_code 9 = .ok (.aload_n 0, 1) := by decide +kernel
theorem d_X7_isOffset_10 : decode prog_9_method_50_code 10 = .ok (.getfield 13, 3) := by decide +kernel
theorem d_X7_isOffset_13 : decode prog_9_method_50_code 13 = .ok (.iload_n 1, 1) := by decide +kernel
theorem d_X7_isOffset_14 : decode prog_9_method_50_code 14 = .ok (.iaload, 1) := by decide +kernel
theorem d_X7_isOffset_15 : decode prog_9_method_50_code 15 = .ok (.iconst 1, 1) := by decide +kernel
theorem d_X7_isOffset_16 : decode prog_9_method_50_code 16 = .ok (.isub, 1) := by decide +kernel
theorem d_X7_isOffset_17 : decode prog_9_method_50_code 17 = .ok (.i2l, 1) := by decide +kernel
theorem d_X7_isOffset_18 : decode prog_9_method_50_code 18 = .ok (.invokestatic 76, 3) := by decide +kernel
theorem d_X7_isOffset_21 : decode prog_9_method_50_code 21 = .ok (.ifCond .eq 7, 3) := by decide +kernel
theorem d_X7_isOffset_24 : decode prog_9_method_50_code 24 = .ok (.iconst 1, 1) := by decide +kernel
theorem d_X7_isOffset_25 : decode prog_9_method_50_code 25 = .ok (.goto 4, 3) := by decide +kernel
theorem d_X7_isOffset_28 : decode prog_9_method_50_code 28 = .ok (.iconst 0, 1) := by decide +kernel
theorem d_X7_isOffset_29 : decode prog_9_method_50_code 29 = .ok (.ireturn, 1) := by decide +kernel
abbrev M_Model_isOffset : zMT := (⟨"PeriodSlotsModel", "isOffset", "(II)Z"⟩, prog_9_method_50_code, 3, (some .boolean))
theorem k_Model_isOffset : zcall M_Model_isOffset 2 := ⟨zU_in (i := 1013) (by decide +kernel) rfl, m62, ⟨by decide, by decide, by decide +kernel⟩, by decide⟩
def o_Model_isOffset (h : zHp) (s : Nat) (offset : Int32) : Bool :=
  ((decide (offset = (-9))) || (o_Model_in (Int32.toInt64 offset) 0 (Int32.toInt64 ((h 53 s) - 1))))
theorem rd_Model_isOffset {h h2 : zHp} {s : Nat} {offset : Int32} (e0 : h2 53 = h 53) : o_Model_isOffset h2 s offset = o_Model_isOffset h s offset := by
  unfold o_Model_isOffset
  simp only [e0]

set_option maxHeartbeats 400000 in
set_option maxRecDepth 20000 in
theorem c_Model_isOffset (X : zXT) (h : zHp) (g : zLg) (s : Nat) (offset : Int32) {x_s : Int32} (e_s : x_s = nI s) (hl0 : s < 8) : zDi X M_Model_isOffset 1 [zR X 51, .int x_s, .int offset] h g (zI (zb (o_Model_isOffset h s offset))) h g := by
  subst e_s
  refine zDi_of "PeriodSlotsModel" prog_9_method_50_code 3 (some .boolean) rfl (by decide) [zO X 51, zI (nI s), zI offset] rfl (fun _ q => q) (Nat.le_of_ble_eq_true rfl) ?_
  intro Γ Q C hQ
  refine zr_iload_n C d_X7_isOffset_0 rfl ?_
  refine zr_bipush C (v := (-9)) d_X7_isOffset_1 (by decide) ?_
  suffices hJ3 : ∀ (y2 : Bool), ((decide (offset = (-9))) || (o_Model_in (Int32.toInt64 offset) 0 (Int32.toInt64 ((h 53 s) - 1)))) = y2 → zV X Γ Q 29 [none, none, none] [.int (zb y2)] h g by
    refine zr_icmp_eq C 24 d_X7_isOffset_3 (by decide) (fun c3 => ?_) (fun c3 => ?_)
    · refine zr_iconst C (v := 1) d_X7_isOffset_24 (by decide) ?_
      refine zr_goto C 29 d_X7_isOffset_25 (by decide) ?_
      refine zr_lv [none, none, none] (by simp [zle]) ?_
      exact hJ3 true (by simp [c3])
    · refine zr_iload_n C d_X7_isOffset_6 rfl ?_
      refine zr_i2l C d_X7_isOffset_7 ?_
      refine zr_lconst C (v := 0) d_X7_isOffset_8 (by decide) ?_
      refine zr_aload_n C d_X7_isOffset_9 rfl ?_
      refine gf_Model_3 C m756 d_X7_isOffset_10 ?_
      refine zr_iload_n C d_X7_isOffset_13 rfl ?_
      refine zr_iald C za_53 (s) rfl (by omega) (by decide) d_X7_isOffset_14 ?_
      refine zr_iconst C (v := 1) d_X7_isOffset_15 (by decide) ?_
      refine zr_isub C d_X7_isOffset_16 ?_
      refine zr_i2l C d_X7_isOffset_17 ?_
      refine zr_callSi (As := [.long (Int32.toInt64 offset), .long 0, .long (Int32.toInt64 ((h 53 s) - 1))]) (st := []) C (c_Model_in X h g (Int32.toInt64 offset) 0 (Int32.toInt64 ((h 53 s) - 1))) k_Model_in m856 m857 rfl (by decide) rfl (Nat.le_of_ble_eq_true rfl) d_X7_isOffset_18 ?_
      refine zr_ifz_eq C 28 d_X7_isOffset_21 (by decide) (fun c21 => ?_) (fun c21 => ?_)
      · refine zr_iconst C (v := 0) d_X7_isOffset_28 (by decide) ?_
        refine zr_lv [none, none, none] (by simp [zle]) ?_
        exact hJ3 false (by simp [c3, c21])
      · refine zr_iconst C (v := 1) d_X7_isOffset_24 (by decide) ?_
        refine zr_goto C 29 d_X7_isOffset_25 (by decide) ?_
        refine zr_lv [none, none, none] (by simp [zle]) ?_
        exact hJ3 true (by simp [c3, c21])
  intro y2 ey2
  have eR : o_Model_isOffset h s offset = y2 := (by subst ey2; unfold o_Model_isOffset; exact rfl)
  subst hQ
  rw [eR]
  exact zr_iretz C (zb_01 _) d_X7_isOffset_29
theorem d_X7_lay_0 : decode prog_9_method_51_code 0 = .ok (.aload_n 0, 1) := by decide +kernel
theorem d_X7_lay_1 : decode prog_9_method_51_code 1 = .ok (.iload_n 1, 1) := by decide +kernel
theorem d_X7_lay_2 : decode prog_9_method_51_code 2 = .ok (.invokevirtual 212, 3) := by decide +kernel
theorem d_X7_lay_5 : decode prog_9_method_51_code 5 = .ok (.ifCond .ne 5, 3) := by decide +kernel
theorem d_X7_lay_8 : decode prog_9_method_51_code 8 = .ok (.iconst (-1), 1) := by decide +kernel
theorem d_X7_lay_9 : decode prog_9_method_51_code 9 = .ok (.ireturn, 1) := by decide +kernel
theorem d_X7_lay_10 : decode prog_9_method_51_code 10 = .ok (.aload_n 0, 1) := by decide +kernel
theorem d_X7_lay_11 : decode prog_9_method_51_code 11 = .ok (.iload_n 1, 1) := by decide +kernel
theorem d_X7_lay_12 : decode prog_9_method_51_code 12 = .ok (.iload_n 2, 1) := by decide +kernel
theorem d_X7_lay_13 : decode prog_9_method_51_code 13 = .ok (.invokevirtual 228, 3) := by decide +kernel
theorem d_X7_lay_16 : decode prog_9_method_51_code 16 = .ok (.ifCond .ne 6, 3) := by decide +kernel
theorem d_X7_lay_19 : decode prog_9_method_51_code 19 = .ok (.bipush (-2), 2) := by decide +kernel
theorem d_X7_lay_21 : decode prog_9_method_51_code 21 = .ok (.ireturn, 1) := by decide +kernel
theorem d_X7_lay_22 : decode prog_9_method_51_code 22 = .ok (.aload_n 0, 1) := by decide +kernel
theorem d_X7_lay_23 : decode prog_9_method_51_code 23 = .ok (.invokevirtual 218, 3) := by decide +kernel
theorem d_X7_lay_26 : decode prog_9_method_51_code 26 = .ok (.aload_n 0, 1) := by decide +kernel
theorem d_X7_lay_27 : decode prog_9_method_51_code 27 = .ok (.getfield 16, 3) := by decide +kernel
theorem d_X7_lay_30 : decode prog_9_method_51_code 30 = .ok (.invokestatic 221, 3) := by decide +kernel
theorem d_X7_lay_33 : decode prog_9_method_51_code 33 = .ok (.aload_n 0, 1) := by decide +kernel
theorem d_X7_lay_34 : decode prog_9_method_51_code 34 = .ok (.getfield 16, 3) := by decide +kernel
theorem d_X7_lay_37 : decode prog_9_method_51_code 37 = .ok (.iload_n 1, 1) := by decide +kernel
theorem d_X7_lay_38 : decode prog_9_method_51_code 38 = .ok (.iaload, 1) := by decide +kernel
theorem d_X7_lay_39 : decode prog_9_method_51_code 39 = .ok (.istore_n 3, 1) := by decide +kernel
theorem d_X7_lay_40 : decode prog_9_method_51_code 40 = .ok (.aload_n 0, 1) := by decide +kernel
theorem d_X7_lay_41 : decode prog_9_method_51_code 41 = .ok (.getfield 16, 3) := by decide +kernel
theorem d_X7_lay_44 : decode prog_9_method_51_code 44 = .ok (.iload_n 1, 1) := by decide +kernel
theorem d_X7_lay_45 : decode prog_9_method_51_code 45 = .ok (.iload_n 2, 1) := by decide +kernel
theorem d_X7_lay_46 : decode prog_9_method_51_code 46 = .ok (.iastore, 1) := by decide +kernel
theorem d_X7_lay_47 : decode prog_9_method_51_code 47 = .ok (.iload_n 3, 1) := by decide +kernel
theorem d_X7_lay_48 : decode prog_9_method_51_code 48 = .ok (.ireturn, 1) := by decide +kernel
abbrev M_Model_lay : zMT := (⟨"PeriodSlotsModel", "lay", "(II)I"⟩, prog_9_method_51_code, 4, (some .int))
theorem k_Model_lay : zcall M_Model_lay 2 := ⟨zU_in (i := 1009) (by decide +kernel) rfl, m62, ⟨by decide, by decide, by decide +kernel⟩, by decide⟩
def o_Model_lay (h : zHp) (s : Int32) (offset : Int32) : Int32 × zHp :=
  (if (o_Model_isStation h s) = true then (if (o_Model_isOffset h (zcn s) offset) = true then (((o_Model_dropOld (o_Model_note h) 54) 54 (zcn s)), (zup (o_Model_dropOld (o_Model_note h) 54) 54 (zcn s) offset)) else ((-2), h)) else ((-1), h))
theorem fr_Model_lay {h : zHp} {s : Int32} {offset : Int32} (c k : Nat) (q0 : ¬ (c = 51 ∧ k = 2)) (q1 : ¬ (c = 51 ∧ k = 3)) (q2 : c ≠ 57) (q3 : c ≠ 54) : (o_Model_lay h s offset).2 c k = h c k := by
  unfold o_Model_lay
  by_cases f1 : (o_Model_isStation h s) = true
  · rw [if_pos f1]
    by_cases f2 : (o_Model_isOffset h (zcn s) offset) = true
    · rw [if_pos f2]
      try dsimp only
      first | done | exact ((zup_fr (Or.inl (by assumption))).trans ((fr_Model_dropOld _ _ (by assumption)).trans (fr_Model_note _ _ (by assumption) (by assumption) (by assumption))))
    · rw [if_neg f2]
      try dsimp only
      first | done | exact rfl
  · rw [if_neg f1]
    try dsimp only
    first | done | exact rfl
set_option maxHeartbeats 400000 in
set_option maxRecDepth 20000 in
theorem c_Model_lay (X : zXT) (h : zHp) (g : zLg) (s : Int32) (offset : Int32) (hf0 : zfit h 51 1 8) (hper : zper h) (hf2 : zfit h 51 3 13) : zDi X M_Model_lay 2 [zR X 51, .int s, .int offset] h g (zI ((o_Model_lay h s offset).1)) ((o_Model_lay h s offset).2) g := by
  have hf0_1 := hf0.1
  have hf2_1 := hf2.1
  refine zDi_of "PeriodSlotsModel" prog_9_method_51_code 4 (some .int) rfl (by decide) [zO X 51, zI s, zI offset, none] rfl (fun _ q => q) (Nat.le_of_ble_eq_true rfl) ?_
  intro Γ Q C hQ
  refine zr_aload_n C d_X7_lay_0 rfl ?_
  refine zr_iload_n C d_X7_lay_1 rfl ?_
  refine zr_callVi (As := [.int s]) (st := []) (c := 51) C (c_Model_isStation X h g s) k_Model_isStation m980 m982 m40 (by decide) (zC_Model X _ _) rfl rfl (by decide) rfl (Nat.le_of_ble_eq_true rfl) d_X7_lay_2 ?_
  refine zr_ifz_ne C 10 d_X7_lay_5 (by decide) (fun c5 => ?_) (fun c5 => ?_)
  · have ex1 := zist hf0 c5
    have ex1_2 := ex1.2
    have ex1_b := (hf0).1
    refine zr_aload_n C d_X7_lay_10 rfl ?_
    refine zr_iload_n C d_X7_lay_11 rfl ?_
    refine zr_iload_n C d_X7_lay_12 rfl ?_
    refine zr_callVi (As := [.int s, .int offset]) (st := []) (c := 51) C (c_Model_isOffset X h g (zcn s) offset (zix ex1.1) (by omega)) k_Model_isOffset m1010 m1012 m43 (by decide) (zC_Model X _ _) rfl rfl (by decide) rfl (Nat.le_of_ble_eq_true rfl) d_X7_lay_13 ?_
    refine zr_ifz_ne C 22 d_X7_lay_16 (by decide) (fun c16 => ?_) (fun c16 => ?_)
    · refine zr_aload_n C d_X7_lay_22 rfl ?_
      refine zr_callVv (As := []) (st := []) (c := 51) C (c_Model_note X h g hf2) k_Model_note m988 m990 m41 (by decide) (zC_Model X _ _) rfl rfl (by decide) rfl (Nat.le_of_ble_eq_true rfl) d_X7_lay_23 ?_
      refine zr_h (fun h2 eh2 => ?_)
      refine zr_aload_n C d_X7_lay_26 rfl ?_
      refine gf_Model_4 C m757 d_X7_lay_27 ?_
      refine zr_callSv (As := [zR X 54]) (st := []) C (c_Model_dropOld X h2 g 54 (by decide)) k_Model_dropOld m1000 m1001 rfl (by decide) rfl (Nat.le_of_ble_eq_true rfl) d_X7_lay_30 ?_
      refine zr_h (fun h3 eh3 => ?_)
      refine zr_aload_n C d_X7_lay_33 rfl ?_
      refine gf_Model_4 C m757 d_X7_lay_34 ?_
      refine zr_iload_n C d_X7_lay_37 rfl ?_
      refine zr_iald C za_54 (zcn s) (zix ex1.1) (by omega) (by decide) d_X7_lay_38 ?_
      refine zr_istore_n C [zO X 51, zI s, zI offset, zI (h3 54 (zcn s))] d_X7_lay_39 (Nat.le_of_ble_eq_true rfl) rfl rfl ?_
      refine zr_aload_n C d_X7_lay_40 rfl ?_
      refine gf_Model_4 C m757 d_X7_lay_41 ?_
      refine zr_iload_n C d_X7_lay_44 rfl ?_
      refine zr_iload_n C d_X7_lay_45 rfl ?_
      refine zr_iast C za_54 (zcn s) (zix ex1.1) (by omega) (by decide) d_X7_lay_46 ?_
      refine zr_h (fun h4 eh4 => ?_)
      refine zr_iload_n C d_X7_lay_47 rfl ?_
      have eR : o_Model_lay h s offset = ((h3 54 (zcn s)), h4) := (by subst eh4 eh3 eh2; unfold o_Model_lay; rw [if_pos c5, if_pos c16])
      subst hQ
      exact zTQ_Ih eR (zr_ireti C d_X7_lay_48)
    · refine zr_bipush C (v := (-2)) d_X7_lay_19 (by decide) ?_
      have eR : o_Model_lay h s offset = ((-2), h) := (by unfold o_Model_lay; rw [if_pos c5, if_neg (zbf c16)])
      subst hQ
      exact zTQ_Ih eR (zr_ireti C d_X7_lay_21)
  · refine zr_iconst C (v := (-1)) d_X7_lay_8 (by decide) ?_
    have eR : o_Model_lay h s offset = ((-1), h) := (by unfold o_Model_lay; rw [if_neg (zbf c5)])
    subst hQ
    exact zTQ_Ih eR (zr_ireti C d_X7_lay_9)
theorem d_X7_shift_0 : decode prog_9_method_52_code 0 = .ok (.aload_n 0, 1) := by decide +kernel
theorem d_X7_shift_1 : decode prog_9_method_52_code 1 = .ok (.iload_n 1, 1) := by decide +kernel
theorem d_X7_shift_2 : decode prog_9_method_52_code 2 = .ok (.invokevirtual 212, 3) := by decide +kernel
theorem d_X7_shift_5 : decode prog_9_method_52_code 5 = .ok (.ifCond .ne 5, 3) := by decide +kernel
theorem d_X7_shift_8 : decode prog_9_method_52_code 8 = .ok (.iconst (-1), 1) := by decide +kernel
theorem d_X7_shift_9 : decode prog_9_method_52_code 9 = .ok (.ireturn, 1) := by decide +kernel
theorem d_X7_shift_10 : decode prog_9_method_52_code 10 = .ok (.iload_n 2, 1) := by decide +kernel
theorem d_X7_shift_11 : decode prog_9_method_52_code 11 = .ok (.i2l, 1) := by decide +kernel
theorem d_X7_shift_12 : decode prog_9_method_52_code 12 = .ok (.lconst 0, 1) := by decide +kernel
theorem d_X7_shift_13 : decode prog_9_method_52_code 13 = .ok (.ldc2_w 231, 3) := by decide +kernel
theorem d_X7_shift_16 : decode prog_9_method_52_code 16 = .ok (.invokestatic 76, 3) := by decide +kernel
theorem d_X7_shift_19 : decode prog_9_method_52_code 19 = .ok (.ifCond .ne 6, 3) := by decide +kernel
theorem d_X7_shift_22 : decode prog_9_method_52_code 22 = .ok (.bipush (-2), 2) := by decide +kernel
theorem d_X7_shift_24 : decode prog_9_method_52_code 24 = .ok (.ireturn, 1) := by decide +kernel
theorem d_X7_shift_25 : decode prog_9_method_52_code 25 = .ok (.aload_n 0, 1) := by decide +kernel
theorem d_X7_shift_26 : decode prog_9_method_52_code 26 = .ok (.invokevirtual 218, 3) := by decide +kernel
theorem d_X7_shift_29 : decode prog_9_method_52_code 29 = .ok (.aload_n 0, 1) := by decide +kernel
theorem d_X7_shift_30 : decode prog_9_method_52_code 30 = .ok (.getfield 16, 3) := by decide +kernel
theorem d_X7_shift_33 : decode prog_9_method_52_code 33 = .ok (.invokestatic 221, 3) := by decide +kernel
theorem d_X7_shift_36 : decode prog_9_method_52_code 36 = .ok (.aload_n 0, 1) := by decide +kernel
theorem d_X7_shift_37 : decode prog_9_method_52_code 37 = .ok (.aload_n 0, 1) := by decide +kernel
theorem d_X7_shift_38 : decode prog_9_method_52_code 38 = .ok (.getfield 16, 3) := by decide +kernel
theorem d_X7_shift_41 : decode prog_9_method_52_code 41 = .ok (.aload_n 0, 1) := by decide +kernel
theorem d_X7_shift_42 : decode prog_9_method_52_code 42 = .ok (.aload_n 0, 1) := by decide +kernel
theorem d_X7_shift_43 : decode prog_9_method_52_code 43 = .ok (.getfield 16, 3) := by decide +kernel
theorem d_X7_shift_46 : decode prog_9_method_52_code 46 = .ok (.iload_n 1, 1) := by decide +kernel
theorem d_X7_shift_47 : decode prog_9_method_52_code 47 = .ok (.invokevirtual 194, 3) := by decide +kernel
theorem d_X7_shift_50 : decode prog_9_method_52_code 50 = .ok (.iload_n 2, 1) := by decide +kernel
theorem d_X7_shift_51 : decode prog_9_method_52_code 51 = .ok (.invokevirtual 233, 3) := by decide +kernel
theorem d_X7_shift_54 : decode prog_9_method_52_code 54 = .ok (.aload_n 0, 1) := by decide +kernel
theorem d_X7_shift_55 : decode prog_9_method_52_code 55 = .ok (.aload_n 0, 1) := by decide +kernel
theorem d_X7_shift_56 : decode prog_9_method_52_code 56 = .ok (.getfield 16, 3) := by decide +kernel
theorem d_X7_shift_59 : decode prog_9_method_52_code 59 = .ok (.invokevirtual 200, 3) := by decide +kernel
theorem d_X7_shift_62 : decode prog_9_method_52_code 62 = .ok (.ireturn, 1) := by decide +kernel
abbrev M_Model_shift : zMT := (⟨"PeriodSlotsModel", "shift", "(II)I"⟩, prog_9_method_52_code, 3, (some .int))
theorem k_Model_shift : zcall M_Model_shift 2 := ⟨zU_in (i := 1017) (by decide +kernel) rfl, m62, ⟨by decide, by decide, by decide +kernel⟩, by decide⟩
def o_Model_shift (h : zHp) (s : Int32) (d : Int32) : Int32 × zHp :=
  (if (o_Model_isStation h s) = true then (if (o_Model_in (Int32.toInt64 d) 0 7) = true then (((o_Model_clashes (o_Model_shiftOf (o_Model_dropOld (o_Model_note h) 54) 54 (o_Model_netOf (o_Model_dropOld (o_Model_note h) 54) 54 s) d) 54).1), ((o_Model_clashes (o_Model_shiftOf (o_Model_dropOld (o_Model_note h) 54) 54 (o_Model_netOf (o_Model_dropOld (o_Model_note h) 54) 54 s) d) 54).2)) else ((-2), h)) else ((-1), h))
theorem fr_Model_shift {h : zHp} {s : Int32} {d : Int32} (c k : Nat) (q0 : ¬ (c = 51 ∧ k = 2)) (q1 : ¬ (c = 51 ∧ k = 3)) (q2 : c ≠ 57) (q3 : ¬ (c = 51 ∧ k = 9)) (q4 : c ≠ 66) (q5 : c ≠ 54) : (o_Model_shift h s d).2 c k = h c k := by
  unfold o_Model_shift
  by_cases f1 : (o_Model_isStation h s) = true
  · rw [if_pos f1]
    by_cases f2 : (o_Model_in (Int32.toInt64 d) 0 7) = true
    · rw [if_pos f2]
      try dsimp only
      first | done | exact ((fr_Model_clashes _ _ (by assumption) (by assumption)).trans ((fr_Model_shiftOf _ _ (by assumption)).trans ((fr_Model_dropOld _ _ (by assumption)).trans (fr_Model_note _ _ (by assumption) (by assumption) (by assumption)))))
    · rw [if_neg f2]
      try dsimp only
      first | done | exact rfl
  · rw [if_neg f1]
    try dsimp only
    first | done | exact rfl
set_option maxHeartbeats 400000 in
set_option maxRecDepth 20000 in
theorem c_Model_shift (X : zXT) (h : zHp) (g : zLg) (s : Int32) (d : Int32) (hf0 : zfit h 51 1 8) (hper : zper h) (hf2 : zfit h 51 3 13) : zDi X M_Model_shift 4 [zR X 51, .int s, .int d] h g (zI ((o_Model_shift h s d).1)) ((o_Model_shift h s d).2) g := by
  have hf0_1 := hf0.1
  have hf2_1 := hf2.1
  refine zDi_of "PeriodSlotsModel" prog_9_method_52_code 3 (some .int) rfl (by decide) [zO X 51, zI s, zI d] rfl (fun _ q => q) (Nat.le_of_ble_eq_true rfl) ?_
  intro Γ Q C hQ
  refine zr_aload_n C d_X7_shift_0 rfl ?_
  refine zr_iload_n C d_X7_shift_1 rfl ?_
  refine zr_callVi (As := [.int s]) (st := []) (c := 51) C (c_Model_isStation X h g s) k_Model_isStation m980 m982 m40 (by decide) (zC_Model X _ _) rfl rfl (by decide) rfl (Nat.le_of_ble_eq_true rfl) d_X7_shift_2 ?_
  refine zr_ifz_ne C 10 d_X7_shift_5 (by decide) (fun c5 => ?_) (fun c5 => ?_)
  · have ex1 := zist hf0 c5
    have ex1_2 := ex1.2
    have ex1_b := (hf0).1
    refine zr_iload_n C d_X7_shift_10 rfl ?_
    refine zr_i2l C d_X7_shift_11 ?_
    refine zr_lconst C (v := 0) d_X7_shift_12 (by decide) ?_
    refine zr_ldc2 C (v := 7) m1018 d_X7_shift_13 ?_
    refine zr_callSi (As := [.long (Int32.toInt64 d), .long 0, .long 7]) (st := []) C (c_Model_in X h g (Int32.toInt64 d) 0 7) k_Model_in m856 m857 rfl (by decide) rfl (Nat.le_of_ble_eq_true rfl) d_X7_shift_16 ?_
    refine zr_ifz_ne C 25 d_X7_shift_19 (by decide) (fun c19 => ?_) (fun c19 => ?_)
    · have ex2 := zin (N := 7) c19 (by decide) (by decide)
      have ex2_2 := ex2.2
      refine zr_aload_n C d_X7_shift_25 rfl ?_
      refine zr_callVv (As := []) (st := []) (c := 51) C (c_Model_note X h g hf2) k_Model_note m988 m990 m41 (by decide) (zC_Model X _ _) rfl rfl (by decide) rfl (Nat.le_of_ble_eq_true rfl) d_X7_shift_26 ?_
      refine zr_h (fun h3 eh3 => ?_)
      refine zr_aload_n C d_X7_shift_29 rfl ?_
      refine gf_Model_4 C m757 d_X7_shift_30 ?_
      refine zr_callSv (As := [zR X 54]) (st := []) C (c_Model_dropOld X h3 g 54 (by decide)) k_Model_dropOld m1000 m1001 rfl (by decide) rfl (Nat.le_of_ble_eq_true rfl) d_X7_shift_33 ?_
      refine zr_h (fun h4 eh4 => ?_)
      refine zr_aload_n C d_X7_shift_36 rfl ?_
      refine zr_aload_n C d_X7_shift_37 rfl ?_
      refine gf_Model_4 C m757 d_X7_shift_38 ?_
      refine zr_aload_n C d_X7_shift_41 rfl ?_
      refine zr_aload_n C d_X7_shift_42 rfl ?_
      refine gf_Model_4 C m757 d_X7_shift_43 ?_
      refine zr_iload_n C d_X7_shift_46 rfl ?_
      refine zr_callVi (As := [zR X 54, .int s]) (st := [zR X 54, zR X 51]) (c := 51) C (c_Model_netOf X h4 g 54 s (by decide) (zfit_fr ((congrFun (congrFun eh4.symm _) _).trans ((fr_Model_dropOld _ _ (by omega)).trans ((congrFun (congrFun eh3.symm _) _).trans (fr_Model_note _ _ (by omega) (by omega) (by omega))))) hf0)) k_Model_netOf m969 m971 m39 (by decide) (zC_Model X _ _) rfl rfl (by decide) rfl (Nat.le_of_ble_eq_true rfl) d_X7_shift_47 ?_
      refine zr_iload_n C d_X7_shift_50 rfl ?_
      refine zr_callVv (As := [zR X 54, .int (o_Model_netOf h4 54 s), .int d]) (st := []) (c := 51) C (c_Model_shiftOf X h4 g 54 (o_Model_netOf h4 54 s) d (by decide) (zfit_fr ((congrFun (congrFun eh4.symm _) _).trans ((fr_Model_dropOld _ _ (by omega)).trans ((congrFun (congrFun eh3.symm _) _).trans (fr_Model_note _ _ (by omega) (by omega) (by omega))))) hf0) (zper_fr ((congrFun (congrFun eh4.symm _) _).trans ((fr_Model_dropOld _ _ (by omega)).trans ((congrFun (congrFun eh3.symm _) _).trans (fr_Model_note _ _ (by omega) (by omega) (by omega))))) (fun v => ((congrFun (congrFun eh4.symm _) _).trans ((fr_Model_dropOld _ _ (by omega)).trans ((congrFun (congrFun eh3.symm _) _).trans (fr_Model_note _ _ (by omega) (by omega) (by omega)))))) hper)) k_Model_shiftOf m1019 m1021 m44 (by decide) (zC_Model X _ _) rfl rfl (by decide) rfl (Nat.le_of_ble_eq_true rfl) d_X7_shift_51 ?_
      refine zr_h (fun h5 eh5 => ?_)
      refine zr_aload_n C d_X7_shift_54 rfl ?_
      refine zr_aload_n C d_X7_shift_55 rfl ?_
      refine gf_Model_4 C m757 d_X7_shift_56 ?_
      refine zr_callVi (As := [zR X 54]) (st := []) (c := 51) C (c_Model_clashes X h5 g 54 (by decide) (zfit_fr ((congrFun (congrFun eh5.symm _) _).trans ((fr_Model_shiftOf _ _ (by omega)).trans ((congrFun (congrFun eh4.symm _) _).trans ((fr_Model_dropOld _ _ (by omega)).trans ((congrFun (congrFun eh3.symm _) _).trans (fr_Model_note _ _ (by omega) (by omega) (by omega))))))) hf0) (zper_fr ((congrFun (congrFun eh5.symm _) _).trans ((fr_Model_shiftOf _ _ (by omega)).trans ((congrFun (congrFun eh4.symm _) _).trans ((fr_Model_dropOld _ _ (by omega)).trans ((congrFun (congrFun eh3.symm _) _).trans (fr_Model_note _ _ (by omega) (by omega) (by omega))))))) (fun v => ((congrFun (congrFun eh5.symm _) _).trans ((fr_Model_shiftOf _ _ (by omega)).trans ((congrFun (congrFun eh4.symm _) _).trans ((fr_Model_dropOld _ _ (by omega)).trans ((congrFun (congrFun eh3.symm _) _).trans (fr_Model_note _ _ (by omega) (by omega) (by omega)))))))) hper)) k_Model_clashes m920 m922 m29 (by decide) (zC_Model X _ _) rfl rfl (by decide) rfl (Nat.le_of_ble_eq_true rfl) d_X7_shift_59 ?_
      refine zr_vi (fun y6 ey6 => ?_)
      refine zr_h (fun h7 eh7 => ?_)
      have eR : o_Model_shift h s d = (y6, h7) := (by subst eh7 ey6 eh5 eh4 eh3; unfold o_Model_shift; rw [if_pos c5, if_pos c19])
      subst hQ
      exact zTQ_Ih eR (zr_ireti C d_X7_shift_62)
    · refine zr_bipush C (v := (-2)) d_X7_shift_22 (by decide) ?_
      have eR : o_Model_shift h s d = ((-2), h) := (by unfold o_Model_shift; rw [if_pos c5, if_neg (zbf c19)])
      subst hQ
      exact zTQ_Ih eR (zr_ireti C d_X7_shift_24)
  · refine zr_iconst C (v := (-1)) d_X7_shift_8 (by decide) ?_
    have eR : o_Model_shift h s d = ((-1), h) := (by unfold o_Model_shift; rw [if_neg (zbf c5)])
    subst hQ
    exact zTQ_Ih eR (zr_ireti C d_X7_shift_9)
theorem d_X7_join_0 : decode prog_9_method_53_code 0 = .ok (.aload_n 0, 1) := by decide +kernel
theorem d_X7_join_1 : decode prog_9_method_53_code 1 = .ok (.iload_n 1, 1) := by decide +kernel
theorem d_X7_join_2 : decode prog_9_method_53_code 2 = .ok (.invokevirtual 212, 3) := by decide +kernel
theorem d_X7_join_5 : decode prog_9_method_53_code 5 = .ok (.ifCond .eq 11, 3) := by decide +kernel
theorem d_X7_join_8 : decode prog_9_method_53_code 8 = .ok (.aload_n 0, 1) := by decide +kernel
theorem d_X7_join_9 : decode prog_9_method_53_code 9 = .ok (.iload_n 2, 1) := by decide +kernel
theorem d_X7_join_10 : decode prog_9_method_53_code 10 = .ok (.invokevirtual 212, 3) := by decide +kernel
theorem d_X7_join_13 : decode prog_9_method_53_code 13 = .ok (.ifCond .ne 5, 3) := by decide +kernel
theorem d_X7_join_16 : decode prog_9_method_53_code 16 = .ok (.iconst (-1), 1) := by decide +kernel
theorem d_X7_join_17 : decode prog_9_method_53_code 17 = .ok (.ireturn, 1) := by decide +kernel
theorem d_X7_join_18 : decode prog_9_method_53_code 18 = .ok (.iload_n 1, 1) := by decide +kernel
theorem d_X7_join_19 : decode prog_9_method_53_code 19 = .ok (.iload_n 2, 1) := by decide +kernel
theorem d_X7_join_20 : decode prog_9_method_53_code 20 = .ok (.if_icmp .ne 6, 3) := by decide +kernel
theorem d_X7_join_23 : decode prog_9_method_53_code 23 = .ok (.bipush (-2), 2) := by decide +kernel
theorem d_X7_join_25 : decode prog_9_method_53_code 25 = .ok (.ireturn, 1) := by decide +kernel
theorem d_X7_join_26 : decode prog_9_method_53_code 26 = .ok (.aload_n 0, 1) := by decide +kernel
theorem d_X7_join_27 : decode prog_9_method_53_code 27 = .ok (.aload_n 0, 1) := by decide +kernel
theorem d_X7_join_28 : decode prog_9_method_53_code 28 = .ok (.getfield 16, 3) := by decide +kernel
theorem d_X7_join_31 : decode prog_9_method_53_code 31 = .ok (.iload_n 1, 1) := by decide +kernel
theorem d_X7_join_32 : decode prog_9_method_53_code 32 = .ok (.invokevirtual 194, 3) := by decide +kernel
theorem d_X7_join_35 : decode prog_9_method_53_code 35 = .ok (.istore_n 3, 1) := by decide +kernel
theorem d_X7_join_36 : decode prog_9_method_53_code 36 = .ok (.aload_n 0, 1) := by decide +kernel
theorem d_X7_join_37 : decode prog_9_method_53_code 37 = .ok (.aload_n 0, 1) := by decide +kernel
theorem d_X7_join_38 : decode prog_9_method_53_code 38 = .ok (.getfield 16, 3) := by decide +kernel
theorem d_X7_join_41 : decode prog_9_method_53_code 41 = .ok (.iload_n 2, 1) := by decide +kernel
theorem d_X7_join_42 : decode prog_9_method_53_code 42 = .ok (.invokevirtual 194, 3) := by decide +kernel
theorem d_X7_join_45 : decode prog_9_method_53_code 45 = .ok (.istore 4, 2) := by decide +kernel
theorem d_X7_join_47 : decode prog_9_method_53_code 47 = .ok (.iload_n 3, 1) := by decide +kernel
theorem d_X7_join_48 : decode prog_9_method_53_code 48 = .ok (.iload 4, 2) := by decide +kernel
theorem d_X7_join_50 : decode prog_9_method_53_code 50 = .ok (.if_icmp .ne 6, 3) := by decide +kernel
theorem d_X7_join_53 : decode prog_9_method_53_code 53 = .ok (.bipush (-3), 2) := by decide +kernel
theorem d_X7_join_55 : decode prog_9_method_53_code 55 = .ok (.ireturn, 1) := by decide +kernel
theorem d_X7_join_56 : decode prog_9_method_53_code 56 = .ok (.aload_n 0, 1) := by decide +kernel
theorem d_X7_join_57 : decode prog_9_method_53_code 57 = .ok (.invokevirtual 218, 3) := by decide +kernel
theorem d_X7_join_60 : decode prog_9_method_53_code 60 = .ok (.aload_n 0, 1) := by decide +kernel
theorem d_X7_join_61 : decode prog_9_method_53_code 61 = .ok (.getfield 16, 3) := by decide +kernel
theorem d_X7_join_64 : decode prog_9_method_53_code 64 = .ok (.invokestatic 221, 3) := by decide +kernel
theorem d_X7_join_67 : decode prog_9_method_53_code 67 = .ok (.iload_n 3, 1) := by decide +kernel
theorem d_X7_join_68 : decode prog_9_method_53_code 68 = .ok (.invokestatic 191, 3) := by decide +kernel
theorem d_X7_join_71 : decode prog_9_method_53_code 71 = .ok (.iload 4, 2) := by decide +kernel
theorem d_X7_join_73 : decode prog_9_method_53_code 73 = .ok (.invokestatic 191, 3) := by decide +kernel
theorem d_X7_join_76 : decode prog_9_method_53_code 76 = .ok (.if_icmp .lt 27, 3) := by decide +kernel
theorem d_X7_join_79 : decode prog_9_method_53_code 79 = .ok (.iload_n 3, 1) := by decide +kernel
theorem d_X7_join_80 : decode prog_9_method_53_code 80 = .ok (.invokestatic 191, 3) := by decide +kernel
theorem d_X7_join_83 : decode prog_9_method_53_code 83 = .ok (.iload 4, 2) := by decide +kernel
theorem d_X7_join_85 : decode prog_9_method_53_code 85 = .ok (.invokestatic 191, 3) := by decide +kernel
theorem d_X7_join_88 : decode prog_9_method_53_code 88 = .ok (.if_icmp .ne 19, 3) := by decide +kernel
theorem d_X7_join_91 : decode prog_9_method_53_code 91 = .ok (.iload_n 3, 1) := by decide +kernel
theorem d_X7_join_92 : decode prog_9_method_53_code 92 = .ok (.invokestatic 177, 3) := by decide +kernel
theorem d_X7_join_95 : decode prog_9_method_53_code 95 = .ok (.iload 4, 2) := by decide +kernel
theorem d_X7_join_97 : decode prog_9_method_53_code 97 = .ok (.invokestatic 177, 3) := by decide +kernel
theorem d_X7_join_100 : decode prog_9_method_53_code 100 = .ok (.if_icmp .le 7, 3) := by decide +kernel
theorem d_X7_join_103 : decode prog_9_method_53_code 103 = .ok (.iload_n 3, 1) := by decide +kernel
theorem d_X7_join_104 : decode prog_9_method_53_code 104 = .ok (.goto 5, 3) := by decide +kernel
theorem d_X7_join_107 : decode prog_9_method_53_code 107 = .ok (.iload 4, 2) := by decide +kernel
theorem d_X7_join_109 : decode prog_9_method_53_code 109 = .ok (.istore 5, 2) := by decide +kernel
theorem d_X7_join_111 : decode prog_9_method_53_code 111 = .ok (.aload_n 0, 1) := by decide +kernel
theorem d_X7_join_112 : decode prog_9_method_53_code 112 = .ok (.getfield 16, 3) := by decide +kernel
theorem d_X7_join_115 : decode prog_9_method_53_code 115 = .ok (.iload_n 1, 1) := by decide +kernel
theorem d_X7_join_116 : decode prog_9_method_53_code 116 = .ok (.iload_n 2, 1) := by decide +kernel
theorem d_X7_join_117 : decode prog_9_method_53_code 117 = .ok (.invokestatic 224, 3) := by decide +kernel
theorem d_X7_join_120 : decode prog_9_method_53_code 120 = .ok (.iconst 0, 1) := by decide +kernel
theorem d_X7_join_121 : decode prog_9_method_53_code 121 = .ok (.istore 6, 2) := by decide +kernel
theorem d_X7_join_123 : decode prog_9_method_53_code 123 = .ok (.sipush 1000, 3) := by decide +kernel
theorem d_X7_join_126 : decode prog_9_method_53_code 126 = .ok (.istore 7, 2) := by decide +kernel
theorem d_X7_join_128 : decode prog_9_method_53_code 128 = .ok (.iconst 0, 1) := by decide +kernel
theorem d_X7_join_129 : decode prog_9_method_53_code 129 = .ok (.istore 8, 2) := by decide +kernel
theorem d_X7_join_131 : decode prog_9_method_53_code 131 = .ok (.iload 8, 2) := by decide +kernel
theorem d_X7_join_133 : decode prog_9_method_53_code 133 = .ok (.bipush 8, 2) := by decide +kernel
theorem d_X7_join_135 : decode prog_9_method_53_code 135 = .ok (.if_icmp .ge 74, 3) := by decide +kernel
theorem d_X7_join_138 : decode prog_9_method_53_code 138 = .ok (.aload_n 0, 1) := by decide +kernel
theorem d_X7_join_139 : decode prog_9_method_53_code 139 = .ok (.getfield 16, 3) := by decide +kernel
theorem d_X7_join_142 : decode prog_9_method_53_code 142 = .ok (.aload_n 0, 1) := by decide +kernel
theorem d_X7_join_143 : decode prog_9_method_53_code 143 = .ok (.getfield 22, 3) := by decide +kernel
theorem d_X7_join_146 : decode prog_9_method_53_code 146 = .ok (.invokestatic 236, 3) := by decide +kernel
theorem d_X7_join_149 : decode prog_9_method_53_code 149 = .ok (.aload_n 0, 1) := by decide +kernel
theorem d_X7_join_150 : decode prog_9_method_53_code 150 = .ok (.aload_n 0, 1) := by decide +kernel
theorem d_X7_join_151 : decode prog_9_method_53_code 151 = .ok (.getfield 22, 3) := by decide +kernel
theorem d_X7_join_154 : decode prog_9_method_53_code 154 = .ok (.iload 5, 2) := by decide +kernel
theorem d_X7_join_156 : decode prog_9_method_53_code 156 = .ok (.iload 8, 2) := by decide +kernel
theorem d_X7_join_158 : decode prog_9_method_53_code 158 = .ok (.invokevirtual 233, 3) := by decide +kernel
theorem d_X7_join_161 : decode prog_9_method_53_code 161 = .ok (.aload_n 0, 1) := by decide +kernel
theorem d_X7_join_162 : decode prog_9_method_53_code 162 = .ok (.aload_n 0, 1) := by decide +kernel
theorem d_X7_join_163 : decode prog_9_method_53_code 163 = .ok (.getfield 22, 3) := by decide +kernel
theorem d_X7_join_166 : decode prog_9_method_53_code 166 = .ok (.invokevirtual 200, 3) := by decide +kernel
theorem d_X7_join_169 : decode prog_9_method_53_code 169 = .ok (.istore 9, 2) := by decide +kernel
theorem d_X7_join_171 : decode prog_9_method_53_code 171 = .ok (.iload 9, 2) := by decide +kernel
theorem d_X7_join_173 : decode prog_9_method_53_code 173 = .ok (.iload 7, 2) := by decide +kernel
theorem d_X7_join_175 : decode prog_9_method_53_code 175 = .ok (.if_icmp .ge 8, 3) := by decide +kernel
theorem d_X7_join_178 : decode prog_9_method_53_code 178 = .ok (.iload 8, 2) := by decide +kernel
theorem d_X7_join_180 : decode prog_9_method_53_code 180 = .ok (.goto 5, 3) := by decide +kernel
theorem d_X7_join_183 : decode prog_9_method_53_code 183 = .ok (.iload 6, 2) := by decide +kernel
theorem d_X7_join_185 : decode prog_9_method_53_code 185 = .ok (.istore 6, 2) := by decide +kernel
theorem d_X7_join_187 : decode prog_9_method_53_code 187 = .ok (.iload 9, 2) := by decide +kernel
theorem d_X7_join_189 : decode prog_9_method_53_code 189 = .ok (.iload 7, 2) := by decide +kernel
theorem d_X7_join_191 : decode prog_9_method_53_code 191 = .ok (.if_icmp .ge 8, 3) := by decide +kernel
theorem d_X7_join_194 : decode prog_9_method_53_code 194 = .ok (.iload 9, 2) := by decide +kernel
theorem d_X7_join_196 : decode prog_9_method_53_code 196 = .ok (.goto 5, 3) := by decide +kernel
theorem d_X7_join_199 : decode prog_9_method_53_code 199 = .ok (.iload 7, 2) := by decide +kernel
theorem d_X7_join_201 : decode prog_9_method_53_code 201 = .ok (.istore 7, 2) := by decide +kernel
theorem d_X7_join_203 : decode prog_9_method_53_code 203 = .ok (.iinc 8 1, 3) := by decide +kernel
theorem d_X7_join_206 : decode prog_9_method_53_code 206 = .ok (.goto (-75), 3) := by decide +kernel
theorem d_X7_join_209 : decode prog_9_method_53_code 209 = .ok (.aload_n 0, 1) := by decide +kernel
theorem d_X7_join_210 : decode prog_9_method_53_code 210 = .ok (.aload_n 0, 1) := by decide +kernel
theorem d_X7_join_211 : decode prog_9_method_53_code 211 = .ok (.getfield 16, 3) := by decide +kernel
theorem d_X7_join_214 : decode prog_9_method_53_code 214 = .ok (.iload 5, 2) := by decide +kernel
theorem d_X7_join_216 : decode prog_9_method_53_code 216 = .ok (.iload 6, 2) := by decide +kernel
theorem d_X7_join_218 : decode prog_9_method_53_code 218 = .ok (.invokevirtual 233, 3) := by decide +kernel
theorem d_X7_join_221 : decode prog_9_method_53_code 221 = .ok (.iload 6, 2) := by decide +kernel
theorem d_X7_join_223 : decode prog_9_method_53_code 223 = .ok (.ireturn, 1) := by decide +kernel
abbrev M_Model_join : zMT := (⟨"PeriodSlotsModel", "join", "(II)I"⟩, prog_9_method_53_code, 10, (some .int))
theorem k_Model_join : zcall M_Model_join 2 := ⟨zU_in (i := 1026) (by decide +kernel) rfl, m62, ⟨by decide, by decide, by decide +kernel⟩, by decide⟩
def o_Model_join (h : zHp) (i : Int32) (j : Int32) : Int32 × zHp :=
  (if (o_Model_isStation h i) = true then (if (o_Model_isStation h j) = true then (if i = j then ((-2), h) else (if (o_Model_netOf h 54 i) = (o_Model_netOf h 54 j) then ((-3), h) else ((zrep (fun (i131_8 : Nat) (s131_8 : Int32 × Int32 × zHp) => ((if s131_8.2.1 ≤ ((o_Model_clashes (o_Model_shiftOf (o_Model_copy s131_8.2.2 54 56) 56 (if (o_Model_ones (o_Model_netOf h 54 i)) < (o_Model_ones (o_Model_netOf h 54 j)) then (o_Model_netOf h 54 i) else (if (o_Model_ones (o_Model_netOf h 54 i)) = (o_Model_ones (o_Model_netOf h 54 j)) then (if (o_Model_leastOf (o_Model_netOf h 54 i)) ≤ (o_Model_leastOf (o_Model_netOf h 54 j)) then (o_Model_netOf h 54 j) else (o_Model_netOf h 54 i)) else (o_Model_netOf h 54 j))) (nI i131_8)) 56).1) then s131_8.1 else (nI i131_8)), (if s131_8.2.1 ≤ ((o_Model_clashes (o_Model_shiftOf (o_Model_copy s131_8.2.2 54 56) 56 (if (o_Model_ones (o_Model_netOf h 54 i)) < (o_Model_ones (o_Model_netOf h 54 j)) then (o_Model_netOf h 54 i) else (if (o_Model_ones (o_Model_netOf h 54 i)) = (o_Model_ones (o_Model_netOf h 54 j)) then (if (o_Model_leastOf (o_Model_netOf h 54 i)) ≤ (o_Model_leastOf (o_Model_netOf h 54 j)) then (o_Model_netOf h 54 j) else (o_Model_netOf h 54 i)) else (o_Model_netOf h 54 j))) (nI i131_8)) 56).1) then s131_8.2.1 else ((o_Model_clashes (o_Model_shiftOf (o_Model_copy s131_8.2.2 54 56) 56 (if (o_Model_ones (o_Model_netOf h 54 i)) < (o_Model_ones (o_Model_netOf h 54 j)) then (o_Model_netOf h 54 i) else (if (o_Model_ones (o_Model_netOf h 54 i)) = (o_Model_ones (o_Model_netOf h 54 j)) then (if (o_Model_leastOf (o_Model_netOf h 54 i)) ≤ (o_Model_leastOf (o_Model_netOf h 54 j)) then (o_Model_netOf h 54 j) else (o_Model_netOf h 54 i)) else (o_Model_netOf h 54 j))) (nI i131_8)) 56).1)), ((o_Model_clashes (o_Model_shiftOf (o_Model_copy s131_8.2.2 54 56) 56 (if (o_Model_ones (o_Model_netOf h 54 i)) < (o_Model_ones (o_Model_netOf h 54 j)) then (o_Model_netOf h 54 i) else (if (o_Model_ones (o_Model_netOf h 54 i)) = (o_Model_ones (o_Model_netOf h 54 j)) then (if (o_Model_leastOf (o_Model_netOf h 54 i)) ≤ (o_Model_leastOf (o_Model_netOf h 54 j)) then (o_Model_netOf h 54 j) else (o_Model_netOf h 54 i)) else (o_Model_netOf h 54 j))) (nI i131_8)) 56).2))) (0, 1000, (o_Model_turnOf (o_Model_dropOld (o_Model_note h) 54) 54 (zcn i) (zcn j))) 8).1, (o_Model_shiftOf (zrep (fun (i131_8 : Nat) (s131_8 : Int32 × Int32 × zHp) => ((if s131_8.2.1 ≤ ((o_Model_clashes (o_Model_shiftOf (o_Model_copy s131_8.2.2 54 56) 56 (if (o_Model_ones (o_Model_netOf h 54 i)) < (o_Model_ones (o_Model_netOf h 54 j)) then (o_Model_netOf h 54 i) else (if (o_Model_ones (o_Model_netOf h 54 i)) = (o_Model_ones (o_Model_netOf h 54 j)) then (if (o_Model_leastOf (o_Model_netOf h 54 i)) ≤ (o_Model_leastOf (o_Model_netOf h 54 j)) then (o_Model_netOf h 54 j) else (o_Model_netOf h 54 i)) else (o_Model_netOf h 54 j))) (nI i131_8)) 56).1) then s131_8.1 else (nI i131_8)), (if s131_8.2.1 ≤ ((o_Model_clashes (o_Model_shiftOf (o_Model_copy s131_8.2.2 54 56) 56 (if (o_Model_ones (o_Model_netOf h 54 i)) < (o_Model_ones (o_Model_netOf h 54 j)) then (o_Model_netOf h 54 i) else (if (o_Model_ones (o_Model_netOf h 54 i)) = (o_Model_ones (o_Model_netOf h 54 j)) then (if (o_Model_leastOf (o_Model_netOf h 54 i)) ≤ (o_Model_leastOf (o_Model_netOf h 54 j)) then (o_Model_netOf h 54 j) else (o_Model_netOf h 54 i)) else (o_Model_netOf h 54 j))) (nI i131_8)) 56).1) then s131_8.2.1 else ((o_Model_clashes (o_Model_shiftOf (o_Model_copy s131_8.2.2 54 56) 56 (if (o_Model_ones (o_Model_netOf h 54 i)) < (o_Model_ones (o_Model_netOf h 54 j)) then (o_Model_netOf h 54 i) else (if (o_Model_ones (o_Model_netOf h 54 i)) = (o_Model_ones (o_Model_netOf h 54 j)) then (if (o_Model_leastOf (o_Model_netOf h 54 i)) ≤ (o_Model_leastOf (o_Model_netOf h 54 j)) then (o_Model_netOf h 54 j) else (o_Model_netOf h 54 i)) else (o_Model_netOf h 54 j))) (nI i131_8)) 56).1)), ((o_Model_clashes (o_Model_shiftOf (o_Model_copy s131_8.2.2 54 56) 56 (if (o_Model_ones (o_Model_netOf h 54 i)) < (o_Model_ones (o_Model_netOf h 54 j)) then (o_Model_netOf h 54 i) else (if (o_Model_ones (o_Model_netOf h 54 i)) = (o_Model_ones (o_Model_netOf h 54 j)) then (if (o_Model_leastOf (o_Model_netOf h 54 i)) ≤ (o_Model_leastOf (o_Model_netOf h 54 j)) then (o_Model_netOf h 54 j) else (o_Model_netOf h 54 i)) else (o_Model_netOf h 54 j))) (nI i131_8)) 56).2))) (0, 1000, (o_Model_turnOf (o_Model_dropOld (o_Model_note h) 54) 54 (zcn i) (zcn j))) 8).2.2 54 (if (o_Model_ones (o_Model_netOf h 54 i)) < (o_Model_ones (o_Model_netOf h 54 j)) then (o_Model_netOf h 54 i) else (if (o_Model_ones (o_Model_netOf h 54 i)) = (o_Model_ones (o_Model_netOf h 54 j)) then (if (o_Model_leastOf (o_Model_netOf h 54 i)) ≤ (o_Model_leastOf (o_Model_netOf h 54 j)) then (o_Model_netOf h 54 j) else (o_Model_netOf h 54 i)) else (o_Model_netOf h 54 j))) (zrep (fun (i131_8 : Nat) (s131_8 : Int32 × Int32 × zHp) => ((if s131_8.2.1 ≤ ((o_Model_clashes (o_Model_shiftOf (o_Model_copy s131_8.2.2 54 56) 56 (if (o_Model_ones (o_Model_netOf h 54 i)) < (o_Model_ones (o_Model_netOf h 54 j)) then (o_Model_netOf h 54 i) else (if (o_Model_ones (o_Model_netOf h 54 i)) = (o_Model_ones (o_Model_netOf h 54 j)) then (if (o_Model_leastOf (o_Model_netOf h 54 i)) ≤ (o_Model_leastOf (o_Model_netOf h 54 j)) then (o_Model_netOf h 54 j) else (o_Model_netOf h 54 i)) else (o_Model_netOf h 54 j))) (nI i131_8)) 56).1) then s131_8.1 else (nI i131_8)), (if s131_8.2.1 ≤ ((o_Model_clashes (o_Model_shiftOf (o_Model_copy s131_8.2.2 54 56) 56 (if (o_Model_ones (o_Model_netOf h 54 i)) < (o_Model_ones (o_Model_netOf h 54 j)) then (o_Model_netOf h 54 i) else (if (o_Model_ones (o_Model_netOf h 54 i)) = (o_Model_ones (o_Model_netOf h 54 j)) then (if (o_Model_leastOf (o_Model_netOf h 54 i)) ≤ (o_Model_leastOf (o_Model_netOf h 54 j)) then (o_Model_netOf h 54 j) else (o_Model_netOf h 54 i)) else (o_Model_netOf h 54 j))) (nI i131_8)) 56).1) then s131_8.2.1 else ((o_Model_clashes (o_Model_shiftOf (o_Model_copy s131_8.2.2 54 56) 56 (if (o_Model_ones (o_Model_netOf h 54 i)) < (o_Model_ones (o_Model_netOf h 54 j)) then (o_Model_netOf h 54 i) else (if (o_Model_ones (o_Model_netOf h 54 i)) = (o_Model_ones (o_Model_netOf h 54 j)) then (if (o_Model_leastOf (o_Model_netOf h 54 i)) ≤ (o_Model_leastOf (o_Model_netOf h 54 j)) then (o_Model_netOf h 54 j) else (o_Model_netOf h 54 i)) else (o_Model_netOf h 54 j))) (nI i131_8)) 56).1)), ((o_Model_clashes (o_Model_shiftOf (o_Model_copy s131_8.2.2 54 56) 56 (if (o_Model_ones (o_Model_netOf h 54 i)) < (o_Model_ones (o_Model_netOf h 54 j)) then (o_Model_netOf h 54 i) else (if (o_Model_ones (o_Model_netOf h 54 i)) = (o_Model_ones (o_Model_netOf h 54 j)) then (if (o_Model_leastOf (o_Model_netOf h 54 i)) ≤ (o_Model_leastOf (o_Model_netOf h 54 j)) then (o_Model_netOf h 54 j) else (o_Model_netOf h 54 i)) else (o_Model_netOf h 54 j))) (nI i131_8)) 56).2))) (0, 1000, (o_Model_turnOf (o_Model_dropOld (o_Model_note h) 54) 54 (zcn i) (zcn j))) 8).1)))) else ((-1), h)) else ((-1), h))
theorem fr_Model_join {h : zHp} {i : Int32} {j : Int32} (c k : Nat) (q0 : ¬ (c = 51 ∧ k = 2)) (q1 : ¬ (c = 51 ∧ k = 3)) (q2 : c ≠ 57) (q3 : ¬ (c = 51 ∧ k = 9)) (q4 : c ≠ 66) (q5 : c ≠ 54) (q6 : c ≠ 56) : (o_Model_join h i j).2 c k = h c k := by
  unfold o_Model_join
  by_cases f1 : (o_Model_isStation h i) = true
  · rw [if_pos f1]
    by_cases f2 : (o_Model_isStation h j) = true
    · rw [if_pos f2]
      by_cases f3 : i = j
      · rw [if_pos f3]
        try dsimp only
        first | done | exact rfl
      · rw [if_neg f3]
        by_cases f4 : (o_Model_netOf h 54 i) = (o_Model_netOf h 54 j)
        · rw [if_pos f4]
          try dsimp only
          first | done | exact rfl
        · rw [if_neg f4]
          have hI131_8 := zrep_inv (f := (fun (i131_8 : Nat) (s131_8 : Int32 × Int32 × zHp) => ((if s131_8.2.1 ≤ ((o_Model_clashes (o_Model_shiftOf (o_Model_copy s131_8.2.2 54 56) 56 (if (o_Model_ones (o_Model_netOf h 54 i)) < (o_Model_ones (o_Model_netOf h 54 j)) then (o_Model_netOf h 54 i) else (if (o_Model_ones (o_Model_netOf h 54 i)) = (o_Model_ones (o_Model_netOf h 54 j)) then (if (o_Model_leastOf (o_Model_netOf h 54 i)) ≤ (o_Model_leastOf (o_Model_netOf h 54 j)) then (o_Model_netOf h 54 j) else (o_Model_netOf h 54 i)) else (o_Model_netOf h 54 j))) (nI i131_8)) 56).1) then s131_8.1 else (nI i131_8)), (if s131_8.2.1 ≤ ((o_Model_clashes (o_Model_shiftOf (o_Model_copy s131_8.2.2 54 56) 56 (if (o_Model_ones (o_Model_netOf h 54 i)) < (o_Model_ones (o_Model_netOf h 54 j)) then (o_Model_netOf h 54 i) else (if (o_Model_ones (o_Model_netOf h 54 i)) = (o_Model_ones (o_Model_netOf h 54 j)) then (if (o_Model_leastOf (o_Model_netOf h 54 i)) ≤ (o_Model_leastOf (o_Model_netOf h 54 j)) then (o_Model_netOf h 54 j) else (o_Model_netOf h 54 i)) else (o_Model_netOf h 54 j))) (nI i131_8)) 56).1) then s131_8.2.1 else ((o_Model_clashes (o_Model_shiftOf (o_Model_copy s131_8.2.2 54 56) 56 (if (o_Model_ones (o_Model_netOf h 54 i)) < (o_Model_ones (o_Model_netOf h 54 j)) then (o_Model_netOf h 54 i) else (if (o_Model_ones (o_Model_netOf h 54 i)) = (o_Model_ones (o_Model_netOf h 54 j)) then (if (o_Model_leastOf (o_Model_netOf h 54 i)) ≤ (o_Model_leastOf (o_Model_netOf h 54 j)) then (o_Model_netOf h 54 j) else (o_Model_netOf h 54 i)) else (o_Model_netOf h 54 j))) (nI i131_8)) 56).1)), ((o_Model_clashes (o_Model_shiftOf (o_Model_copy s131_8.2.2 54 56) 56 (if (o_Model_ones (o_Model_netOf h 54 i)) < (o_Model_ones (o_Model_netOf h 54 j)) then (o_Model_netOf h 54 i) else (if (o_Model_ones (o_Model_netOf h 54 i)) = (o_Model_ones (o_Model_netOf h 54 j)) then (if (o_Model_leastOf (o_Model_netOf h 54 i)) ≤ (o_Model_leastOf (o_Model_netOf h 54 j)) then (o_Model_netOf h 54 j) else (o_Model_netOf h 54 i)) else (o_Model_netOf h 54 j))) (nI i131_8)) 56).2)))) (a := (0, 1000, (o_Model_turnOf (o_Model_dropOld (o_Model_note h) 54) 54 (zcn i) (zcn j)))) (fun _ s131_8 => ∀ c k : Nat, ¬ (c = 51 ∧ k = 2) → ¬ (c = 51 ∧ k = 3) → c ≠ 57 → ¬ (c = 51 ∧ k = 9) → c ≠ 66 → c ≠ 54 → c ≠ 56 → s131_8.2.2 c k = (o_Model_turnOf (o_Model_dropOld (o_Model_note h) 54) 54 (zcn i) (zcn j)) c k) (8) (fun _ _ _ _ _ _ _ _ _ => (by dsimp only)) (fun i131_8 s131_8 hi131_8 hI131_8 => (fun c k q0 q1 q2 q3 q4 q5 q6 => (by (try dsimp only); exact ((fr_Model_clashes _ _ (by assumption) (by assumption)).trans ((fr_Model_shiftOf _ _ (by assumption)).trans ((fr_Model_copy _ _ (by assumption)).trans (hI131_8 _ _ (by assumption) (by assumption) (by assumption) (by assumption) (by assumption) (by assumption) (by assumption))))))))
          try dsimp only
          first | done | exact ((fr_Model_shiftOf _ _ (by assumption)).trans ((hI131_8 _ _ (by assumption) (by assumption) (by assumption) (by assumption) (by assumption) (by assumption) (by assumption)).trans ((fr_Model_turnOf _ _ (by assumption)).trans ((fr_Model_dropOld _ _ (by assumption)).trans (fr_Model_note _ _ (by assumption) (by assumption) (by assumption))))))
    · rw [if_neg f2]
      try dsimp only
      first | done | exact rfl
  · rw [if_neg f1]
    try dsimp only
    first | done | exact rfl
set_option maxHeartbeats 400000 in
set_option maxRecDepth 20000 in
theorem c_Model_join (X : zXT) (h : zHp) (g : zLg) (i : Int32) (j : Int32) (hf0 : zfit h 51 1 8) (hper : zper h) (hf2 : zfit h 51 3 13) : zDi X M_Model_join 4 [zR X 51, .int i, .int j] h g (zI ((o_Model_join h i j).1)) ((o_Model_join h i j).2) g := by
  have hf0_1 := hf0.1
  have hf2_1 := hf2.1
  refine zDi_of "PeriodSlotsModel" prog_9_method_53_code 10 (some .int) rfl (by decide) [zO X 51, zI i, zI j, none, none, none, none, none, none, none] rfl (fun _ q => q) (Nat.le_of_ble_eq_true rfl) ?_
  intro Γ Q C hQ
  refine zr_aload_n C d_X7_join_0 rfl ?_
  refine zr_iload_n C d_X7_join_1 rfl ?_
  refine zr_callVi (As := [.int i]) (st := []) (c := 51) C (c_Model_isStation X h g i) k_Model_isStation m980 m982 m40 (by decide) (zC_Model X _ _) rfl rfl (by decide) rfl (Nat.le_of_ble_eq_true rfl) d_X7_join_2 ?_
  refine zr_ifz_eq C 16 d_X7_join_5 (by decide) (fun c5 => ?_) (fun c5 => ?_)
  · refine zr_iconst C (v := (-1)) d_X7_join_16 (by decide) ?_
    have eR : o_Model_join h i j = ((-1), h) := (by unfold o_Model_join; rw [if_neg (zbf c5)])
    subst hQ
    exact zTQ_Ih eR (zr_ireti C d_X7_join_17)
  · have ex1 := zist hf0 c5
    have ex1_2 := ex1.2
    have ex1_b := (hf0).1
    refine zr_aload_n C d_X7_join_8 rfl ?_
    refine zr_iload_n C d_X7_join_9 rfl ?_
    refine zr_callVi (As := [.int j]) (st := []) (c := 51) C (c_Model_isStation X h g j) k_Model_isStation m980 m982 m40 (by decide) (zC_Model X _ _) rfl rfl (by decide) rfl (Nat.le_of_ble_eq_true rfl) d_X7_join_10 ?_
    refine zr_ifz_ne C 18 d_X7_join_13 (by decide) (fun c13 => ?_) (fun c13 => ?_)
    · have ex2 := zist hf0 c13
      have ex2_2 := ex2.2
      have ex2_b := (hf0).1
      refine zr_iload_n C d_X7_join_18 rfl ?_
      refine zr_iload_n C d_X7_join_19 rfl ?_
      refine zr_icmp_ne C 26 d_X7_join_20 (by decide) (fun c20 => ?_) (fun c20 => ?_)
      · have en3 := zn_ne (a := zcn i) (b := zcn j) (zix ex1.1) (zix ex2.1) c20 (zcn_small _) (zcn_small _)
        refine zr_aload_n C d_X7_join_26 rfl ?_
        refine zr_aload_n C d_X7_join_27 rfl ?_
        refine gf_Model_4 C m757 d_X7_join_28 ?_
        refine zr_iload_n C d_X7_join_31 rfl ?_
        refine zr_callVi (As := [zR X 54, .int i]) (st := []) (c := 51) C (c_Model_netOf X h g 54 i (by decide) hf0) k_Model_netOf m969 m971 m39 (by decide) (zC_Model X _ _) rfl rfl (by decide) rfl (Nat.le_of_ble_eq_true rfl) d_X7_join_32 ?_
        refine zr_istore_n C [zO X 51, zI i, zI j, zI (o_Model_netOf h 54 i), none, none, none, none, none, none] d_X7_join_35 (Nat.le_of_ble_eq_true rfl) rfl rfl ?_
        refine zr_aload_n C d_X7_join_36 rfl ?_
        refine zr_aload_n C d_X7_join_37 rfl ?_
        refine gf_Model_4 C m757 d_X7_join_38 ?_
        refine zr_iload_n C d_X7_join_41 rfl ?_
        refine zr_callVi (As := [zR X 54, .int j]) (st := []) (c := 51) C (c_Model_netOf X h g 54 j (by decide) hf0) k_Model_netOf m969 m971 m39 (by decide) (zC_Model X _ _) rfl rfl (by decide) rfl (Nat.le_of_ble_eq_true rfl) d_X7_join_42 ?_
        refine zr_istore C [zO X 51, zI i, zI j, zI (o_Model_netOf h 54 i), zI (o_Model_netOf h 54 j), none, none, none, none, none] d_X7_join_45 (Nat.le_of_ble_eq_true rfl) rfl rfl ?_
        refine zr_iload_n C d_X7_join_47 rfl ?_
        refine zr_iload C d_X7_join_48 rfl ?_
        refine zr_icmp_ne C 56 d_X7_join_50 (by decide) (fun c50 => ?_) (fun c50 => ?_)
        · refine zr_aload_n C d_X7_join_56 rfl ?_
          refine zr_callVv (As := []) (st := []) (c := 51) C (c_Model_note X h g hf2) k_Model_note m988 m990 m41 (by decide) (zC_Model X _ _) rfl rfl (by decide) rfl (Nat.le_of_ble_eq_true rfl) d_X7_join_57 ?_
          refine zr_h (fun h4 eh4 => ?_)
          refine zr_aload_n C d_X7_join_60 rfl ?_
          refine gf_Model_4 C m757 d_X7_join_61 ?_
          refine zr_callSv (As := [zR X 54]) (st := []) C (c_Model_dropOld X h4 g 54 (by decide)) k_Model_dropOld m1000 m1001 rfl (by decide) rfl (Nat.le_of_ble_eq_true rfl) d_X7_join_64 ?_
          refine zr_h (fun h5 eh5 => ?_)
          refine zr_iload_n C d_X7_join_67 rfl ?_
          refine zr_callSi (As := [.int (o_Model_netOf h 54 i)]) (st := []) C (c_Model_ones X h5 g (o_Model_netOf h 54 i)) k_Model_ones m917 m918 rfl (by decide) rfl (Nat.le_of_ble_eq_true rfl) d_X7_join_68 ?_
          refine zr_iload C d_X7_join_71 rfl ?_
          refine zr_callSi (As := [.int (o_Model_netOf h 54 j)]) (st := [.int (o_Model_ones (o_Model_netOf h 54 i))]) C (c_Model_ones X h5 g (o_Model_netOf h 54 j)) k_Model_ones m917 m918 rfl (by decide) rfl (Nat.le_of_ble_eq_true rfl) d_X7_join_73 ?_
          suffices hJ76 : ∀ (y6 : Int32), (if (o_Model_ones (o_Model_netOf h 54 i)) < (o_Model_ones (o_Model_netOf h 54 j)) then (o_Model_netOf h 54 i) else (if (o_Model_ones (o_Model_netOf h 54 i)) = (o_Model_ones (o_Model_netOf h 54 j)) then (if (o_Model_leastOf (o_Model_netOf h 54 i)) ≤ (o_Model_leastOf (o_Model_netOf h 54 j)) then (o_Model_netOf h 54 j) else (o_Model_netOf h 54 i)) else (o_Model_netOf h 54 j))) = y6 → zV X Γ Q 109 [zO X 51, zI i, zI j, none, none, none, none, none, none, none] [.int y6] h5 g by
            refine zr_icmp_lt C 103 d_X7_join_76 (by decide) (fun c76 => ?_) (fun c76 => ?_)
            · refine zr_iload_n C d_X7_join_103 rfl ?_
              refine zr_goto C 109 d_X7_join_104 (by decide) ?_
              refine zr_lv [zO X 51, zI i, zI j, none, none, none, none, none, none, none] (by simp [zle]) ?_
              exact hJ76 (o_Model_netOf h 54 i) (((if_pos c76)))
            · refine zr_iload_n C d_X7_join_79 rfl ?_
              refine zr_callSi (As := [.int (o_Model_netOf h 54 i)]) (st := []) C (c_Model_ones X h5 g (o_Model_netOf h 54 i)) k_Model_ones m917 m918 rfl (by decide) rfl (Nat.le_of_ble_eq_true rfl) d_X7_join_80 ?_
              refine zr_iload C d_X7_join_83 rfl ?_
              refine zr_callSi (As := [.int (o_Model_netOf h 54 j)]) (st := [.int (o_Model_ones (o_Model_netOf h 54 i))]) C (c_Model_ones X h5 g (o_Model_netOf h 54 j)) k_Model_ones m917 m918 rfl (by decide) rfl (Nat.le_of_ble_eq_true rfl) d_X7_join_85 ?_
              refine zr_icmp_ne C 107 d_X7_join_88 (by decide) (fun c88 => ?_) (fun c88 => ?_)
              · refine zr_iload C d_X7_join_107 rfl ?_
                refine zr_lv [zO X 51, zI i, zI j, none, none, none, none, none, none, none] (by simp [zle]) ?_
                exact hJ76 (o_Model_netOf h 54 j) (((if_neg c76).trans ((if_neg c88))))
              · refine zr_iload_n C d_X7_join_91 rfl ?_
                refine zr_callSi (As := [.int (o_Model_netOf h 54 i)]) (st := []) C (c_Model_leastOf X h5 g (o_Model_netOf h 54 i)) k_Model_leastOf m973 m974 rfl (by decide) rfl (Nat.le_of_ble_eq_true rfl) d_X7_join_92 ?_
                refine zr_iload C d_X7_join_95 rfl ?_
                refine zr_callSi (As := [.int (o_Model_netOf h 54 j)]) (st := [.int (o_Model_leastOf (o_Model_netOf h 54 i))]) C (c_Model_leastOf X h5 g (o_Model_netOf h 54 j)) k_Model_leastOf m973 m974 rfl (by decide) rfl (Nat.le_of_ble_eq_true rfl) d_X7_join_97 ?_
                refine zr_icmp_le C 107 d_X7_join_100 (by decide) (fun c100 => ?_) (fun c100 => ?_)
                · refine zr_iload C d_X7_join_107 rfl ?_
                  refine zr_lv [zO X 51, zI i, zI j, none, none, none, none, none, none, none] (by simp [zle]) ?_
                  exact hJ76 (o_Model_netOf h 54 j) (((if_neg c76).trans ((if_pos c88).trans ((if_pos c100)))))
                · refine zr_iload_n C d_X7_join_103 rfl ?_
                  refine zr_goto C 109 d_X7_join_104 (by decide) ?_
                  refine zr_lv [zO X 51, zI i, zI j, none, none, none, none, none, none, none] (by simp [zle]) ?_
                  exact hJ76 (o_Model_netOf h 54 i) (((if_neg c76).trans ((if_pos c88).trans ((if_neg c100)))))
          intro y6 ey6
          refine zr_istore C [zO X 51, zI i, zI j, none, none, zI y6, none, none, none, none] d_X7_join_109 (Nat.le_of_ble_eq_true rfl) rfl rfl ?_
          refine zr_aload_n C d_X7_join_111 rfl ?_
          refine gf_Model_4 C m757 d_X7_join_112 ?_
          refine zr_iload_n C d_X7_join_115 rfl ?_
          refine zr_iload_n C d_X7_join_116 rfl ?_
          refine zr_callSv (As := [zR X 54, .int i, .int j]) (st := []) C (c_Model_turnOf X h5 g 54 (zcn i) (zcn j) (zix ex1.1) (zix ex2.1) (by decide) (by omega) (by omega)) k_Model_turnOf m1003 m1004 rfl (by decide) rfl (Nat.le_of_ble_eq_true rfl) d_X7_join_117 ?_
          refine zr_h (fun h7 eh7 => ?_)
          refine zr_iconst C (v := 0) d_X7_join_120 (by decide) ?_
          refine zr_istore C [zO X 51, zI i, zI j, none, none, zI y6, zI 0, none, none, none] d_X7_join_121 (Nat.le_of_ble_eq_true rfl) rfl rfl ?_
          refine zr_sipush C (v := 1000) d_X7_join_123 (by decide) ?_
          refine zr_istore C [zO X 51, zI i, zI j, none, none, zI y6, zI 0, zI 1000, none, none] d_X7_join_126 (Nat.le_of_ble_eq_true rfl) rfl rfl ?_
          refine zr_iconst C (v := 0) d_X7_join_128 (by decide) ?_
          refine zr_istore C [zO X 51, zI i, zI j, none, none, zI y6, zI 0, zI 1000, zI 0, none] d_X7_join_129 (Nat.le_of_ble_eq_true rfl) rfl rfl ?_
          refine zr_lv [zO X 51, none, none, none, none, zI y6, zI 0, zI 1000, zI 0, none] (by simp [zle]) ?_
          refine zfor (f := (fun (i131_8 : Nat) (s131_8 : Int32 × Int32 × zHp) => ((if s131_8.2.1 ≤ ((o_Model_clashes (o_Model_shiftOf (o_Model_copy s131_8.2.2 54 56) 56 y6 (nI i131_8)) 56).1) then s131_8.1 else (nI i131_8)), (if s131_8.2.1 ≤ ((o_Model_clashes (o_Model_shiftOf (o_Model_copy s131_8.2.2 54 56) 56 y6 (nI i131_8)) 56).1) then s131_8.2.1 else ((o_Model_clashes (o_Model_shiftOf (o_Model_copy s131_8.2.2 54 56) 56 y6 (nI i131_8)) 56).1)), ((o_Model_clashes (o_Model_shiftOf (o_Model_copy s131_8.2.2 54 56) 56 y6 (nI i131_8)) 56).2)))) (a := (0, 1000, h7)) (fun i131_8 s131_8 => zV X Γ Q 131 [zO X 51, none, none, none, none, zI y6, zI s131_8.1, zI s131_8.2.1, zI (nI i131_8), none] [] s131_8.2.2 g) (fun _ s131_8 => ∀ c k : Nat, ¬ (c = 51 ∧ k = 2) → ¬ (c = 51 ∧ k = 3) → c ≠ 57 → ¬ (c = 51 ∧ k = 9) → c ≠ 66 → c ≠ 54 → c ≠ 56 → s131_8.2.2 c k = h7 c k) (8) (fun _ _ _ _ _ _ _ _ _ => (by dsimp only)) (fun i131_8 s131_8 hi131_8 hI131_8 => ⟨(fun c k q0 q1 q2 q3 q4 q5 q6 => (by (try dsimp only); exact ((fr_Model_clashes _ _ (by assumption) (by assumption)).trans ((fr_Model_shiftOf _ _ (by assumption)).trans ((fr_Model_copy _ _ (by assumption)).trans (hI131_8 _ _ (by assumption) (by assumption) (by assumption) (by assumption) (by assumption) (by assumption) (by assumption))))))), fun hk131_8 => ?_⟩) (fun r131_8 er131_8 hI131_8 => ?_)
          · refine zr_iload C d_X7_join_131 rfl ?_
            refine zr_bipush C (v := 8) d_X7_join_133 (by decide) ?_
            refine zr_icmp_ge C 209 d_X7_join_135 (by decide) (fun c => absurd c (zge_noN (B := 8) rfl (by omega) (by omega))) (fun _ => ?_)
            refine zr_aload_n C d_X7_join_138 rfl ?_
            refine gf_Model_4 C m757 d_X7_join_139 ?_
            refine zr_aload_n C d_X7_join_142 rfl ?_
            refine gf_Model_6 C m759 d_X7_join_143 ?_
            refine zr_callSv (As := [zR X 54, zR X 56]) (st := []) C (c_Model_copy X s131_8.2.2 g 54 56 (by decide) (by decide)) k_Model_copy m1027 m1028 rfl (by decide) rfl (Nat.le_of_ble_eq_true rfl) d_X7_join_146 ?_
            refine zr_h (fun h9 eh9 => ?_)
            refine zr_aload_n C d_X7_join_149 rfl ?_
            refine zr_aload_n C d_X7_join_150 rfl ?_
            refine gf_Model_6 C m759 d_X7_join_151 ?_
            refine zr_iload C d_X7_join_154 rfl ?_
            refine zr_iload C d_X7_join_156 rfl ?_
            refine zr_callVv (As := [zR X 56, .int y6, .int (nI i131_8)]) (st := []) (c := 51) C (c_Model_shiftOf X h9 g 56 y6 (nI i131_8) (by decide) (zfit_fr ((congrFun (congrFun eh9.symm _) _).trans ((fr_Model_copy _ _ (by omega)).trans ((hI131_8 _ _ (by omega) (by omega) (by omega) (by omega) (by omega) (by omega) (by omega)).trans ((congrFun (congrFun eh7.symm _) _).trans ((fr_Model_turnOf _ _ (by omega)).trans ((congrFun (congrFun eh5.symm _) _).trans ((fr_Model_dropOld _ _ (by omega)).trans ((congrFun (congrFun eh4.symm _) _).trans (fr_Model_note _ _ (by omega) (by omega) (by omega)))))))))) hf0) (zper_fr ((congrFun (congrFun eh9.symm _) _).trans ((fr_Model_copy _ _ (by omega)).trans ((hI131_8 _ _ (by omega) (by omega) (by omega) (by omega) (by omega) (by omega) (by omega)).trans ((congrFun (congrFun eh7.symm _) _).trans ((fr_Model_turnOf _ _ (by omega)).trans ((congrFun (congrFun eh5.symm _) _).trans ((fr_Model_dropOld _ _ (by omega)).trans ((congrFun (congrFun eh4.symm _) _).trans (fr_Model_note _ _ (by omega) (by omega) (by omega)))))))))) (fun v => ((congrFun (congrFun eh9.symm _) _).trans ((fr_Model_copy _ _ (by omega)).trans ((hI131_8 _ _ (by omega) (by omega) (by omega) (by omega) (by omega) (by omega) (by omega)).trans ((congrFun (congrFun eh7.symm _) _).trans ((fr_Model_turnOf _ _ (by omega)).trans ((congrFun (congrFun eh5.symm _) _).trans ((fr_Model_dropOld _ _ (by omega)).trans ((congrFun (congrFun eh4.symm _) _).trans (fr_Model_note _ _ (by omega) (by omega) (by omega))))))))))) hper)) k_Model_shiftOf m1019 m1021 m44 (by decide) (zC_Model X _ _) rfl rfl (by decide) rfl (Nat.le_of_ble_eq_true rfl) d_X7_join_158 ?_
            refine zr_h (fun h10 eh10 => ?_)
            refine zr_aload_n C d_X7_join_161 rfl ?_
            refine zr_aload_n C d_X7_join_162 rfl ?_
            refine gf_Model_6 C m759 d_X7_join_163 ?_
            refine zr_callVi (As := [zR X 56]) (st := []) (c := 51) C (c_Model_clashes X h10 g 56 (by decide) (zfit_fr ((congrFun (congrFun eh10.symm _) _).trans ((fr_Model_shiftOf _ _ (by omega)).trans ((congrFun (congrFun eh9.symm _) _).trans ((fr_Model_copy _ _ (by omega)).trans ((hI131_8 _ _ (by omega) (by omega) (by omega) (by omega) (by omega) (by omega) (by omega)).trans ((congrFun (congrFun eh7.symm _) _).trans ((fr_Model_turnOf _ _ (by omega)).trans ((congrFun (congrFun eh5.symm _) _).trans ((fr_Model_dropOld _ _ (by omega)).trans ((congrFun (congrFun eh4.symm _) _).trans (fr_Model_note _ _ (by omega) (by omega) (by omega)))))))))))) hf0) (zper_fr ((congrFun (congrFun eh10.symm _) _).trans ((fr_Model_shiftOf _ _ (by omega)).trans ((congrFun (congrFun eh9.symm _) _).trans ((fr_Model_copy _ _ (by omega)).trans ((hI131_8 _ _ (by omega) (by omega) (by omega) (by omega) (by omega) (by omega) (by omega)).trans ((congrFun (congrFun eh7.symm _) _).trans ((fr_Model_turnOf _ _ (by omega)).trans ((congrFun (congrFun eh5.symm _) _).trans ((fr_Model_dropOld _ _ (by omega)).trans ((congrFun (congrFun eh4.symm _) _).trans (fr_Model_note _ _ (by omega) (by omega) (by omega)))))))))))) (fun v => ((congrFun (congrFun eh10.symm _) _).trans ((fr_Model_shiftOf _ _ (by omega)).trans ((congrFun (congrFun eh9.symm _) _).trans ((fr_Model_copy _ _ (by omega)).trans ((hI131_8 _ _ (by omega) (by omega) (by omega) (by omega) (by omega) (by omega) (by omega)).trans ((congrFun (congrFun eh7.symm _) _).trans ((fr_Model_turnOf _ _ (by omega)).trans ((congrFun (congrFun eh5.symm _) _).trans ((fr_Model_dropOld _ _ (by omega)).trans ((congrFun (congrFun eh4.symm _) _).trans (fr_Model_note _ _ (by omega) (by omega) (by omega))))))))))))) hper)) k_Model_clashes m920 m922 m29 (by decide) (zC_Model X _ _) rfl rfl (by decide) rfl (Nat.le_of_ble_eq_true rfl) d_X7_join_166 ?_
            refine zr_vi (fun y11 ey11 => ?_)
            refine zr_h (fun h12 eh12 => ?_)
            refine zr_istore C [zO X 51, none, none, none, none, zI y6, zI s131_8.1, zI s131_8.2.1, zI (nI i131_8), zI y11] d_X7_join_169 (Nat.le_of_ble_eq_true rfl) rfl rfl ?_
            refine zr_iload C d_X7_join_171 rfl ?_
            refine zr_iload C d_X7_join_173 rfl ?_
            suffices hJ175 : ∀ (y13 : Int32), (if s131_8.2.1 ≤ y11 then s131_8.1 else (nI i131_8)) = y13 → zV X Γ Q 185 [zO X 51, none, none, none, none, zI y6, none, zI s131_8.2.1, zI (nI i131_8), zI y11] [.int y13] h12 g by
              refine zr_icmp_ge C 183 d_X7_join_175 (by decide) (fun c175 => ?_) (fun c175 => ?_)
              · refine zr_iload C d_X7_join_183 rfl ?_
                refine zr_lv [zO X 51, none, none, none, none, zI y6, none, zI s131_8.2.1, zI (nI i131_8), zI y11] (by simp [zle]) ?_
                exact hJ175 s131_8.1 (((if_pos c175)))
              · refine zr_iload C d_X7_join_178 rfl ?_
                refine zr_goto C 185 d_X7_join_180 (by decide) ?_
                refine zr_lv [zO X 51, none, none, none, none, zI y6, none, zI s131_8.2.1, zI (nI i131_8), zI y11] (by simp [zle]) ?_
                exact hJ175 (nI i131_8) (((if_neg c175)))
            intro y13 ey13
            refine zr_istore C [zO X 51, none, none, none, none, zI y6, zI y13, zI s131_8.2.1, zI (nI i131_8), zI y11] d_X7_join_185 (Nat.le_of_ble_eq_true rfl) rfl rfl ?_
            refine zr_iload C d_X7_join_187 rfl ?_
            refine zr_iload C d_X7_join_189 rfl ?_
            suffices hJ191 : ∀ (y14 : Int32), (if s131_8.2.1 ≤ y11 then s131_8.2.1 else y11) = y14 → zV X Γ Q 201 [zO X 51, none, none, none, none, zI y6, zI y13, none, zI (nI i131_8), none] [.int y14] h12 g by
              refine zr_icmp_ge C 199 d_X7_join_191 (by decide) (fun c191 => ?_) (fun c191 => ?_)
              · refine zr_iload C d_X7_join_199 rfl ?_
                refine zr_lv [zO X 51, none, none, none, none, zI y6, zI y13, none, zI (nI i131_8), none] (by simp [zle]) ?_
                exact hJ191 s131_8.2.1 (((if_pos c191)))
              · refine zr_iload C d_X7_join_194 rfl ?_
                refine zr_goto C 201 d_X7_join_196 (by decide) ?_
                refine zr_lv [zO X 51, none, none, none, none, zI y6, zI y13, none, zI (nI i131_8), none] (by simp [zle]) ?_
                exact hJ191 y11 (((if_neg c191)))
            intro y14 ey14
            refine zr_istore C [zO X 51, none, none, none, none, zI y6, zI y13, zI y14, zI (nI i131_8), none] d_X7_join_201 (Nat.le_of_ble_eq_true rfl) rfl rfl ?_
            refine zr_iinc C [zO X 51, none, none, none, none, zI y6, zI y13, zI y14, zI (nI (i131_8 + 1)), none] (v := (nI (i131_8 + 1))) d_X7_join_203 rfl (zn_add rfl rfl) (Nat.le_of_ble_eq_true rfl) rfl rfl ?_
            refine zr_goto C 131 d_X7_join_206 (by decide) ?_
            exact hk131_8 (y13, y14, h12) (by subst ey14 ey13 eh12 ey11 eh10 eh9; exact rfl)
          refine zr_iload C d_X7_join_131 rfl ?_
          refine zr_bipush C (v := 8) d_X7_join_133 (by decide) ?_
          refine zr_icmp_ge C 209 d_X7_join_135 (by decide) (fun _ => ?_) (fun c => absurd (zge_yesN (B := 8) rfl (by omega) (by omega)) c)
          refine zr_aload_n C d_X7_join_209 rfl ?_
          refine zr_aload_n C d_X7_join_210 rfl ?_
          refine gf_Model_4 C m757 d_X7_join_211 ?_
          refine zr_iload C d_X7_join_214 rfl ?_
          refine zr_iload C d_X7_join_216 rfl ?_
          refine zr_callVv (As := [zR X 54, .int y6, .int r131_8.1]) (st := []) (c := 51) C (c_Model_shiftOf X r131_8.2.2 g 54 y6 r131_8.1 (by decide) (zfit_fr ((hI131_8 _ _ (by omega) (by omega) (by omega) (by omega) (by omega) (by omega) (by omega)).trans ((congrFun (congrFun eh7.symm _) _).trans ((fr_Model_turnOf _ _ (by omega)).trans ((congrFun (congrFun eh5.symm _) _).trans ((fr_Model_dropOld _ _ (by omega)).trans ((congrFun (congrFun eh4.symm _) _).trans (fr_Model_note _ _ (by omega) (by omega) (by omega)))))))) hf0) (zper_fr ((hI131_8 _ _ (by omega) (by omega) (by omega) (by omega) (by omega) (by omega) (by omega)).trans ((congrFun (congrFun eh7.symm _) _).trans ((fr_Model_turnOf _ _ (by omega)).trans ((congrFun (congrFun eh5.symm _) _).trans ((fr_Model_dropOld _ _ (by omega)).trans ((congrFun (congrFun eh4.symm _) _).trans (fr_Model_note _ _ (by omega) (by omega) (by omega)))))))) (fun v => ((hI131_8 _ _ (by omega) (by omega) (by omega) (by omega) (by omega) (by omega) (by omega)).trans ((congrFun (congrFun eh7.symm _) _).trans ((fr_Model_turnOf _ _ (by omega)).trans ((congrFun (congrFun eh5.symm _) _).trans ((fr_Model_dropOld _ _ (by omega)).trans ((congrFun (congrFun eh4.symm _) _).trans (fr_Model_note _ _ (by omega) (by omega) (by omega))))))))) hper)) k_Model_shiftOf m1019 m1021 m44 (by decide) (zC_Model X _ _) rfl rfl (by decide) rfl (Nat.le_of_ble_eq_true rfl) d_X7_join_218 ?_
          refine zr_h (fun h15 eh15 => ?_)
          refine zr_iload C d_X7_join_221 rfl ?_
          have eR : o_Model_join h i j = (r131_8.1, h15) := (by subst eh15 er131_8 eh7 ey6 eh5 eh4; unfold o_Model_join; rw [if_pos c5, if_pos c13, if_neg c20, if_neg c50])
          subst hQ
          exact zTQ_Ih eR (zr_ireti C d_X7_join_223)
        · refine zr_bipush C (v := (-3)) d_X7_join_53 (by decide) ?_
          have eR : o_Model_join h i j = ((-3), h) := (by unfold o_Model_join; rw [if_pos c5, if_pos c13, if_neg c20, if_pos c50])
          subst hQ
          exact zTQ_Ih eR (zr_ireti C d_X7_join_55)
      · have en16 := zn_nne (a := zcn i) (b := zcn j) (zix ex1.1) (zix ex2.1) c20 (zcn_small _) (zcn_small _)
        refine zr_bipush C (v := (-2)) d_X7_join_23 (by decide) ?_
        have eR : o_Model_join h i j = ((-2), h) := (by unfold o_Model_join; rw [if_pos c5, if_pos c13, if_pos c20])
        subst hQ
        exact zTQ_Ih eR (zr_ireti C d_X7_join_25)
    · refine zr_iconst C (v := (-1)) d_X7_join_16 (by decide) ?_
      have eR : o_Model_join h i j = ((-1), h) := (by unfold o_Model_join; rw [if_pos c5, if_neg (zbf c13)])
      subst hQ
      exact zTQ_Ih eR (zr_ireti C d_X7_join_17)
theorem d_X7_run_0 : decode prog_9_method_54_code 0 = .ok (.aload_n 0, 1) := by decide +kernel
theorem d_X7_run_1 : decode prog_9_method_54_code 1 = .ok (.invokevirtual 218, 3) := by decide +kernel
theorem d_X7_run_4 : decode prog_9_method_54_code 4 = .ok (.aload_n 0, 1) := by decide +kernel
theorem d_X7_run_5 : decode prog_9_method_54_code 5 = .ok (.aload_n 0, 1) := by decide +kernel
theorem d_X7_run_6 : decode prog_9_method_54_code 6 = .ok (.getfield 16, 3) := by decide +kernel
theorem d_X7_run_9 : decode prog_9_method_54_code 9 = .ok (.aload_n 0, 1) := by decide +kernel
theorem d_X7_run_10 : decode prog_9_method_54_code 10 = .ok (.invokevirtual 159, 3) := by decide +kernel
theorem d_X7_run_13 : decode prog_9_method_54_code 13 = .ok (.invokevirtual 162, 3) := by decide +kernel
theorem d_X7_run_16 : decode prog_9_method_54_code 16 = .ok (.aload_n 0, 1) := by decide +kernel
theorem d_X7_run_17 : decode prog_9_method_54_code 17 = .ok (.aload_n 0, 1) := by decide +kernel
theorem d_X7_run_18 : decode prog_9_method_54_code 18 = .ok (.getfield 16, 3) := by decide +kernel
theorem d_X7_run_21 : decode prog_9_method_54_code 21 = .ok (.invokevirtual 240, 3) := by decide +kernel
theorem d_X7_run_24 : decode prog_9_method_54_code 24 = .ok (.istore_n 1, 1) := by decide +kernel
theorem d_X7_run_25 : decode prog_9_method_54_code 25 = .ok (.aload_n 0, 1) := by decide +kernel
theorem d_X7_run_26 : decode prog_9_method_54_code 26 = .ok (.getfield 16, 3) := by decide +kernel
theorem d_X7_run_29 : decode prog_9_method_54_code 29 = .ok (.invokestatic 221, 3) := by decide +kernel
theorem d_X7_run_32 : decode prog_9_method_54_code 32 = .ok (.iload_n 1, 1) := by decide +kernel
theorem d_X7_run_33 : decode prog_9_method_54_code 33 = .ok (.ireturn, 1) := by decide +kernel
abbrev M_Model_run : zMT := (⟨"PeriodSlotsModel", "run", "()I"⟩, prog_9_method_54_code, 2, (some .int))
theorem k_Model_run : zcall M_Model_run 0 := ⟨zU_in (i := 1033) (by decide +kernel) rfl, m62, ⟨by decide, by decide, by decide +kernel⟩, by decide⟩
def o_Model_run (h : zHp) : Int32 × zHp :=
  (((o_Model_runOf (o_Model_layNear (o_Model_note h) 54 (o_Model_all h)) 54).1), (o_Model_dropOld ((o_Model_runOf (o_Model_layNear (o_Model_note h) 54 (o_Model_all h)) 54).2) 54))
theorem fr_Model_run {h : zHp} (c k : Nat) (q0 : ¬ (c = 51 ∧ k = 2)) (q1 : ¬ (c = 51 ∧ k = 3)) (q2 : c ≠ 57) (q3 : ¬ (c = 51 ∧ k = 9)) (q4 : c ≠ 66) (q5 : c ≠ 54) (q6 : ¬ (c = 51 ∧ k = 10)) (q7 : ¬ (c = 51 ∧ k = 11)) (q8 : c ≠ 67) (q9 : c ≠ 68) : (o_Model_run h).2 c k = h c k := by
  unfold o_Model_run
  try dsimp only
  first | done | exact ((fr_Model_dropOld _ _ (by assumption)).trans ((fr_Model_runOf _ _ (by assumption) (by assumption) (by assumption) (by assumption) (by assumption)).trans ((fr_Model_layNear _ _ (by assumption) (by assumption)).trans (fr_Model_note _ _ (by assumption) (by assumption) (by assumption)))))
set_option maxHeartbeats 400000 in
set_option maxRecDepth 20000 in
theorem c_Model_run (X : zXT) (h : zHp) (g : zLg) (hf0 : zfit h 51 1 8) (hper : zper h) (hf2 : zfit h 51 3 13) : zDi X M_Model_run 8 [zR X 51] h g (zI ((o_Model_run h).1)) ((o_Model_run h).2) g := by
  have hf0_1 := hf0.1
  have hf2_1 := hf2.1
  refine zDi_of "PeriodSlotsModel" prog_9_method_54_code 2 (some .int) rfl (by decide) [zO X 51, none] rfl (fun _ q => q) (Nat.le_of_ble_eq_true rfl) ?_
  intro Γ Q C hQ
  refine zr_aload_n C d_X7_run_0 rfl ?_
  refine zr_callVv (As := []) (st := []) (c := 51) C (c_Model_note X h g hf2) k_Model_note m988 m990 m41 (by decide) (zC_Model X _ _) rfl rfl (by decide) rfl (Nat.le_of_ble_eq_true rfl) d_X7_run_1 ?_
  refine zr_h (fun h1 eh1 => ?_)
  refine zr_aload_n C d_X7_run_4 rfl ?_
  refine zr_aload_n C d_X7_run_5 rfl ?_
  refine gf_Model_4 C m757 d_X7_run_6 ?_
  refine zr_aload_n C d_X7_run_9 rfl ?_
  refine zr_callVi (As := []) (st := [zR X 54, zR X 51]) (c := 51) C (c_Model_all X h1 g ) k_Model_all m901 m903 m25 (by decide) (zC_Model X _ _) rfl rfl (by decide) rfl (Nat.le_of_ble_eq_true rfl) d_X7_run_10 ?_
  refine zr_top (rd_Model_all ((congrFun (congrFun eh1.symm _) _).trans (fr_Model_note _ _ (by omega) (by omega) (by omega)))) ?_
  refine zr_callVv (As := [zR X 54, .int (o_Model_all h)]) (st := []) (c := 51) C (c_Model_layNear X h1 g 54 (o_Model_all h) (by decide) (zfit_fr ((congrFun (congrFun eh1.symm _) _).trans (fr_Model_note _ _ (by omega) (by omega) (by omega))) hf0)) k_Model_layNear m905 m907 m26 (by decide) (zC_Model X _ _) rfl rfl (by decide) rfl (Nat.le_of_ble_eq_true rfl) d_X7_run_13 ?_
  refine zr_h (fun h2 eh2 => ?_)
  refine zr_aload_n C d_X7_run_16 rfl ?_
  refine zr_aload_n C d_X7_run_17 rfl ?_
  refine gf_Model_4 C m757 d_X7_run_18 ?_
  refine zr_callVi (As := [zR X 54]) (st := []) (c := 51) C (c_Model_runOf X h2 g 54 (by decide) (zfit_fr ((congrFun (congrFun eh2.symm _) _).trans ((fr_Model_layNear _ _ (by omega) (by omega)).trans ((congrFun (congrFun eh1.symm _) _).trans (fr_Model_note _ _ (by omega) (by omega) (by omega))))) hf0) (zper_fr ((congrFun (congrFun eh2.symm _) _).trans ((fr_Model_layNear _ _ (by omega) (by omega)).trans ((congrFun (congrFun eh1.symm _) _).trans (fr_Model_note _ _ (by omega) (by omega) (by omega))))) (fun v => ((congrFun (congrFun eh2.symm _) _).trans ((fr_Model_layNear _ _ (by omega) (by omega)).trans ((congrFun (congrFun eh1.symm _) _).trans (fr_Model_note _ _ (by omega) (by omega) (by omega)))))) hper)) k_Model_runOf m1034 m1036 m45 (by decide) (zC_Model X _ _) rfl rfl (by decide) rfl (Nat.le_of_ble_eq_true rfl) d_X7_run_21 ?_
  refine zr_vi (fun y3 ey3 => ?_)
  refine zr_h (fun h4 eh4 => ?_)
  refine zr_istore_n C [zO X 51, zI y3] d_X7_run_24 (Nat.le_of_ble_eq_true rfl) rfl rfl ?_
  refine zr_aload_n C d_X7_run_25 rfl ?_
  refine gf_Model_4 C m757 d_X7_run_26 ?_
  refine zr_callSv (As := [zR X 54]) (st := []) C (c_Model_dropOld X h4 g 54 (by decide)) k_Model_dropOld m1000 m1001 rfl (by decide) rfl (Nat.le_of_ble_eq_true rfl) d_X7_run_29 ?_
  refine zr_h (fun h5 eh5 => ?_)
  refine zr_iload_n C d_X7_run_32 rfl ?_
  have eR : o_Model_run h = (y3, h5) := (by subst eh5 eh4 ey3 eh2 eh1; unfold o_Model_run; exact rfl)
  subst hQ
  exact zTQ_Ih eR (zr_ireti C d_X7_run_33)
theorem d_X7_undo_0 : decode prog_9_method_55_code 0 = .ok (.aload_n 0, 1) := by decide +kernel
theorem d_X7_undo_1 : decode prog_9_method_55_code 1 = .ok (.getfield 124, 3) := by decide +kernel
theorem d_X7_undo_4 : decode prog_9_method_55_code 4 = .ok (.ifCond .ne 6, 3) := by decide +kernel
theorem d_X7_undo_7 : decode prog_9_method_55_code 7 = .ok (.bipush (-3), 2) := by decide +kernel
theorem d_X7_undo_9 : decode prog_9_method_55_code 9 = .ok (.ireturn, 1) := by decide +kernel
theorem d_X7_undo_10 : decode prog_9_method_55_code 10 = .ok (.aload_n 0, 1) := by decide +kernel
theorem d_X7_undo_11 : decode prog_9_method_55_code 11 = .ok (.dup, 1) := by decide +kernel
theorem d_X7_undo_12 : decode prog_9_method_55_code 12 = .ok (.getfield 124, 3) := by decide +kernel
theorem d_X7_undo_15 : decode prog_9_method_55_code 15 = .ok (.iconst 1, 1) := by decide +kernel
theorem d_X7_undo_16 : decode prog_9_method_55_code 16 = .ok (.isub, 1) := by decide +kernel
theorem d_X7_undo_17 : decode prog_9_method_55_code 17 = .ok (.putfield 124, 3) := by decide +kernel
theorem d_X7_undo_20 : decode prog_9_method_55_code 20 = .ok (.aload_n 0, 1) := by decide +kernel
theorem d_X7_undo_21 : decode prog_9_method_55_code 21 = .ok (.aload_n 0, 1) := by decide +kernel
theorem d_X7_undo_22 : decode prog_9_method_55_code 22 = .ok (.getfield 215, 3) := by decide +kernel
theorem d_X7_undo_25 : decode prog_9_method_55_code 25 = .ok (.bipush 14, 2) := by decide +kernel
theorem d_X7_undo_27 : decode prog_9_method_55_code 27 = .ok (.iadd, 1) := by decide +kernel
theorem d_X7_undo_28 : decode prog_9_method_55_code 28 = .ok (.iconst 1, 1) := by decide +kernel
theorem d_X7_undo_29 : decode prog_9_method_55_code 29 = .ok (.isub, 1) := by decide +kernel
theorem d_X7_undo_30 : decode prog_9_method_55_code 30 = .ok (.bipush 14, 2) := by decide +kernel
theorem d_X7_undo_32 : decode prog_9_method_55_code 32 = .ok (.irem, 1) := by decide +kernel
theorem d_X7_undo_33 : decode prog_9_method_55_code 33 = .ok (.putfield 215, 3) := by decide +kernel
theorem d_X7_undo_36 : decode prog_9_method_55_code 36 = .ok (.iconst 0, 1) := by decide +kernel
theorem d_X7_undo_37 : decode prog_9_method_55_code 37 = .ok (.istore_n 1, 1) := by decide +kernel
theorem d_X7_undo_38 : decode prog_9_method_55_code 38 = .ok (.iload_n 1, 1) := by decide +kernel
theorem d_X7_undo_39 : decode prog_9_method_55_code 39 = .ok (.bipush 25, 2) := by decide +kernel
theorem d_X7_undo_41 : decode prog_9_method_55_code 41 = .ok (.if_icmp .ge 29, 3) := by decide +kernel
theorem d_X7_undo_44 : decode prog_9_method_55_code 44 = .ok (.aload_n 0, 1) := by decide +kernel
theorem d_X7_undo_45 : decode prog_9_method_55_code 45 = .ok (.getfield 16, 3) := by decide +kernel
theorem d_X7_undo_48 : decode prog_9_method_55_code 48 = .ok (.iload_n 1, 1) := by decide +kernel
theorem d_X7_undo_49 : decode prog_9_method_55_code 49 = .ok (.aload_n 0, 1) := by decide +kernel
theorem d_X7_undo_50 : decode prog_9_method_55_code 50 = .ok (.getfield 25, 3) := by decide +kernel
theorem d_X7_undo_53 : decode prog_9_method_55_code 53 = .ok (.bipush 25, 2) := by decide +kernel
theorem d_X7_undo_55 : decode prog_9_method_55_code 55 = .ok (.aload_n 0, 1) := by decide +kernel
theorem d_X7_undo_56 : decode prog_9_method_55_code 56 = .ok (.getfield 215, 3) := by decide +kernel
theorem d_X7_undo_59 : decode prog_9_method_55_code 59 = .ok (.imul, 1) := by decide +kernel
theorem d_X7_undo_60 : decode prog_9_method_55_code 60 = .ok (.iload_n 1, 1) := by decide +kernel
theorem d_X7_undo_61 : decode prog_9_method_55_code 61 = .ok (.iadd, 1) := by decide +kernel
theorem d_X7_undo_62 : decode prog_9_method_55_code 62 = .ok (.iaload, 1) := by decide +kernel
theorem d_X7_undo_63 : decode prog_9_method_55_code 63 = .ok (.iastore, 1) := by decide +kernel
theorem d_X7_undo_64 : decode prog_9_method_55_code 64 = .ok (.iinc 1 1, 3) := by decide +kernel
theorem d_X7_undo_67 : decode prog_9_method_55_code 67 = .ok (.goto (-29), 3) := by decide +kernel
theorem d_X7_undo_70 : decode prog_9_method_55_code 70 = .ok (.aload_n 0, 1) := by decide +kernel
theorem d_X7_undo_71 : decode prog_9_method_55_code 71 = .ok (.getfield 124, 3) := by decide +kernel
theorem d_X7_undo_74 : decode prog_9_method_55_code 74 = .ok (.ireturn, 1) := by decide +kernel
abbrev M_Model_undo : zMT := (⟨"PeriodSlotsModel", "undo", "()I"⟩, prog_9_method_55_code, 2, (some .int))
theorem k_Model_undo : zcall M_Model_undo 0 := ⟨zU_in (i := 1041) (by decide +kernel) rfl, m62, ⟨by decide, by decide, by decide +kernel⟩, by decide⟩
def o_Model_undo (h : zHp) : Int32 × zHp :=
  (if (h 51 2) = 0 then ((-3), h) else (((h 51 2) - 1), (zrep (fun (i38_3 : Nat) (s38_3 : zHp) => (zup s38_3 54 i38_3 (h 57 ((25 * ((((zcn (h 51 3)) + 14) - 1) % 14)) + i38_3)))) (zup (zup h 51 2 ((h 51 2) - 1)) 51 3 (zrem (((h 51 3) + 14) - 1) 14)) 25)))
theorem fr_Model_undo {h : zHp} (c k : Nat) (q0 : ¬ (c = 51 ∧ k = 2)) (q1 : ¬ (c = 51 ∧ k = 3)) (q2 : c ≠ 54) : (o_Model_undo h).2 c k = h c k := by
  unfold o_Model_undo
  by_cases f1 : (h 51 2) = 0
  · rw [if_pos f1]
    try dsimp only
    first | done | exact rfl
  · rw [if_neg f1]
    have hI38_3 := zrep_inv (f := (fun (i38_3 : Nat) (s38_3 : zHp) => (zup s38_3 54 i38_3 (h 57 ((25 * ((((zcn (h 51 3)) + 14) - 1) % 14)) + i38_3))))) (a := (zup (zup h 51 2 ((h 51 2) - 1)) 51 3 (zrem (((h 51 3) + 14) - 1) 14))) (fun _ s38_3 => ∀ c k : Nat, c ≠ 54 → s38_3 c k = (zup (zup h 51 2 ((h 51 2) - 1)) 51 3 (zrem (((h 51 3) + 14) - 1) 14)) c k) (25) (fun _ _ _ => rfl) (fun i38_3 s38_3 hi38_3 hI38_3 => (fun c k q0 => (by (try dsimp only); exact ((zup_fr (Or.inl (by assumption))).trans (hI38_3 _ _ (by assumption))))))
    try dsimp only
    first | done | exact ((hI38_3 _ _ (by assumption)).trans ((zup_fr (by omega)).trans (zup_fr (by omega))))
set_option maxHeartbeats 400000 in
set_option maxRecDepth 20000 in
theorem c_Model_undo (X : zXT) (h : zHp) (g : zLg) (hf0 : zfit h 51 3 13) : zDi X M_Model_undo 0 [zR X 51] h g (zI ((o_Model_undo h).1)) ((o_Model_undo h).2) g := by
  have hf0_1 := hf0.1
  refine zDi_of "PeriodSlotsModel" prog_9_method_55_code 2 (some .int) rfl (by decide) [zO X 51, none] rfl (fun _ q => q) (Nat.le_of_ble_eq_true rfl) ?_
  intro Γ Q C hQ
  refine zr_aload_n C d_X7_undo_0 rfl ?_
  refine gf_Model_8 C m761 d_X7_undo_1 ?_
  refine zr_if_ne C 10 d_X7_undo_4 (by decide) (fun c4 => ?_) (fun c4 => ?_)
  · refine zr_aload_n C d_X7_undo_10 rfl ?_
    refine zr_dup C d_X7_undo_11 rfl ?_
    refine gf_Model_8 C m761 d_X7_undo_12 ?_
    refine zr_iconst C (v := 1) d_X7_undo_15 (by decide) ?_
    refine zr_isub C d_X7_undo_16 ?_
    refine pf_Model_8 C m761 d_X7_undo_17 ?_
    refine zr_h (fun h1 eh1 => ?_)
    refine zr_aload_n C d_X7_undo_20 rfl ?_
    refine zr_aload_n C d_X7_undo_21 rfl ?_
    refine gf_Model_9 C m762 d_X7_undo_22 ?_
    refine zr_top ((congrFun (congrFun eh1.symm _) _).trans (zup_fr (by omega))) ?_
    refine zr_bipush C (v := 14) d_X7_undo_25 (by decide) ?_
    refine zr_iadd C d_X7_undo_27 ?_
    refine zr_iconst C (v := 1) d_X7_undo_28 (by decide) ?_
    refine zr_isub C d_X7_undo_29 ?_
    refine zr_bipush C (v := 14) d_X7_undo_30 (by decide) ?_
    refine zr_irem C d_X7_undo_32 (by decide) ?_
    refine pf_Model_9 C m762 d_X7_undo_33 ?_
    refine zr_h (fun h2 eh2 => ?_)
    have hfh2 : zfit h2 51 3 13 := zfit_of (m := (((zcn (h 51 3)) + 14) - 1) % 14) ((congrFun (congrFun eh2.symm _) _).trans (zup_at.trans (zn_rem (zn_sub (zn_add hf0.2 rfl) rfl (by omega)) rfl (by omega) (by omega) (by omega)))) (by omega) (by decide)
    have hfh2_1 := hfh2.1
    refine zr_iconst C (v := 0) d_X7_undo_36 (by decide) ?_
    refine zr_istore_n C [zO X 51, zI 0] d_X7_undo_37 (Nat.le_of_ble_eq_true rfl) rfl rfl ?_
    refine zfor (f := (fun (i38_3 : Nat) (s38_3 : zHp) => (zup s38_3 54 i38_3 (h 57 ((25 * ((((zcn (h 51 3)) + 14) - 1) % 14)) + i38_3))))) (a := h2) (fun i38_3 s38_3 => zV X Γ Q 38 [zO X 51, zI (nI i38_3)] [] s38_3 g) (fun _ s38_3 => ∀ c k : Nat, c ≠ 54 → s38_3 c k = h2 c k) (25) (fun _ _ _ => rfl) (fun i38_3 s38_3 hi38_3 hI38_3 => ⟨(fun c k q0 => (by (try dsimp only); exact ((zup_fr (Or.inl (by assumption))).trans (hI38_3 _ _ (by assumption))))), fun hk38_3 => ?_⟩) (fun r38_3 er38_3 hI38_3 => ?_)
    · refine zr_iload_n C d_X7_undo_38 rfl ?_
      refine zr_bipush C (v := 25) d_X7_undo_39 (by decide) ?_
      refine zr_icmp_ge C 70 d_X7_undo_41 (by decide) (fun c => absurd c (zge_noN (B := 25) rfl (by omega) (by omega))) (fun _ => ?_)
      refine zr_aload_n C d_X7_undo_44 rfl ?_
      refine gf_Model_4 C m757 d_X7_undo_45 ?_
      refine zr_iload_n C d_X7_undo_48 rfl ?_
      refine zr_aload_n C d_X7_undo_49 rfl ?_
      refine gf_Model_7 C m760 d_X7_undo_50 ?_
      refine zr_bipush C (v := 25) d_X7_undo_53 (by decide) ?_
      refine zr_aload_n C d_X7_undo_55 rfl ?_
      refine gf_Model_9 C m762 d_X7_undo_56 ?_
      refine zr_top ((hI38_3 _ _ (by omega)).trans ((congrFun (congrFun eh2.symm _) _).trans zup_at)) ?_
      refine zr_imul C d_X7_undo_59 ?_
      refine zr_iload_n C d_X7_undo_60 rfl ?_
      refine zr_iadd C d_X7_undo_61 ?_
      refine zr_iald C za_57 ((25 * ((((zcn (h 51 3)) + 14) - 1) % 14)) + i38_3) (zn_add (zn_mul rfl (zn_rem (zn_sub (zn_add hf0.2 rfl) rfl (by omega)) rfl (by omega) (by omega) (by omega))) rfl) (by omega) (by decide) d_X7_undo_62 ?_
      refine zr_top ((hI38_3 _ _ (by omega)).trans ((congrFun (congrFun eh2.symm _) _).trans ((zup_fr (by omega)).trans ((congrFun (congrFun eh1.symm _) _).trans (zup_fr (by omega)))))) ?_
      refine zr_iast C za_54 (i38_3) rfl (by omega) (by decide) d_X7_undo_63 ?_
      refine zr_h (fun h4 eh4 => ?_)
      refine zr_iinc C [zO X 51, zI (nI (i38_3 + 1))] (v := (nI (i38_3 + 1))) d_X7_undo_64 rfl (zn_add rfl rfl) (Nat.le_of_ble_eq_true rfl) rfl rfl ?_
      refine zr_goto C 38 d_X7_undo_67 (by decide) ?_
      exact hk38_3 h4 (by subst eh4; exact rfl)
    refine zr_iload_n C d_X7_undo_38 rfl ?_
    refine zr_bipush C (v := 25) d_X7_undo_39 (by decide) ?_
    refine zr_icmp_ge C 70 d_X7_undo_41 (by decide) (fun _ => ?_) (fun c => absurd (zge_yesN (B := 25) rfl (by omega) (by omega)) c)
    refine zr_aload_n C d_X7_undo_70 rfl ?_
    refine gf_Model_8 C m761 d_X7_undo_71 ?_
    refine zr_top (((hI38_3 _ _ (by omega)).trans ((congrFun (congrFun eh2.symm _) _).trans (zup_fr (by omega)))).trans ((congrFun (congrFun eh1.symm _) _).trans zup_at)) ?_
    have eR : o_Model_undo h = (((h 51 2) - 1), r38_3) := (by subst er38_3 eh2 eh1; unfold o_Model_undo; rw [if_neg c4])
    subst hQ
    exact zTQ_Ih eR (zr_ireti C d_X7_undo_74)
  · refine zr_bipush C (v := (-3)) d_X7_undo_7 (by decide) ?_
    have eR : o_Model_undo h = ((-3), h) := (by unfold o_Model_undo; rw [if_pos c4])
    subst hQ
    exact zTQ_Ih eR (zr_ireti C d_X7_undo_9)
theorem d_X7_ahead_0 : decode prog_9_method_56_code 0 = .ok (.iload_n 1, 1) := by decide +kernel
theorem d_X7_ahead_1 : decode prog_9_method_56_code 1 = .ok (.i2l, 1) := by decide +kernel
theorem d_X7_ahead_2 : decode prog_9_method_56_code 2 = .ok (.lconst 0, 1) := by decide +kernel
theorem d_X7_ahead_3 : decode prog_9_method_56_code 3 = .ok (.ldc2_w 243, 3) := by decide +kernel
theorem d_X7_ahead_6 : decode prog_9_method_56_code 6 = .ok (.invokestatic 76, 3) := by decide +kernel
theorem d_X7_ahead_9 : decode prog_9_method_56_code 9 = .ok (.ifCond .ne 6, 3) := by decide +kernel
theorem d_X7_ahead_12 : decode prog_9_method_56_code 12 = .ok (.bipush (-2), 2) := by decide +kernel
theorem d_X7_ahead_14 : decode prog_9_method_56_code 14 = .ok (.ireturn, 1) := by decide +kernel
theorem d_X7_ahead_15 : decode prog_9_method_56_code 15 = .ok (.aload_n 0, 1) := by decide +kernel
theorem d_X7_ahead_16 : decode prog_9_method_56_code 16 = .ok (.getfield 16, 3) := by decide +kernel
theorem d_X7_ahead_19 : decode prog_9_method_56_code 19 = .ok (.aload_n 0, 1) := by decide +kernel
theorem d_X7_ahead_20 : decode prog_9_method_56_code 20 = .ok (.getfield 22, 3) := by decide +kernel
theorem d_X7_ahead_23 : decode prog_9_method_56_code 23 = .ok (.invokestatic 236, 3) := by decide +kernel
theorem d_X7_ahead_26 : decode prog_9_method_56_code 26 = .ok (.aload_n 0, 1) := by decide +kernel
theorem d_X7_ahead_27 : decode prog_9_method_56_code 27 = .ok (.aload_n 0, 1) := by decide +kernel
theorem d_X7_ahead_28 : decode prog_9_method_56_code 28 = .ok (.getfield 22, 3) := by decide +kernel
theorem d_X7_ahead_31 : decode prog_9_method_56_code 31 = .ok (.aload_n 0, 1) := by decide +kernel
theorem d_X7_ahead_32 : decode prog_9_method_56_code 32 = .ok (.invokevirtual 159, 3) := by decide +kernel
theorem d_X7_ahead_35 : decode prog_9_method_56_code 35 = .ok (.invokevirtual 162, 3) := by decide +kernel
theorem d_X7_ahead_38 : decode prog_9_method_56_code 38 = .ok (.aload_n 0, 1) := by decide +kernel
theorem d_X7_ahead_39 : decode prog_9_method_56_code 39 = .ok (.aload_n 0, 1) := by decide +kernel
theorem d_X7_ahead_40 : decode prog_9_method_56_code 40 = .ok (.getfield 22, 3) := by decide +kernel
theorem d_X7_ahead_43 : decode prog_9_method_56_code 43 = .ok (.invokevirtual 240, 3) := by decide +kernel
theorem d_X7_ahead_46 : decode prog_9_method_56_code 46 = .ok (.istore_n 2, 1) := by decide +kernel
theorem d_X7_ahead_47 : decode prog_9_method_56_code 47 = .ok (.iload_n 2, 1) := by decide +kernel
theorem d_X7_ahead_48 : decode prog_9_method_56_code 48 = .ok (.bipush (-9), 2) := by decide +kernel
theorem d_X7_ahead_50 : decode prog_9_method_56_code 50 = .ok (.if_icmp .eq 7, 3) := by decide +kernel
theorem d_X7_ahead_53 : decode prog_9_method_56_code 53 = .ok (.iload_n 1, 1) := by decide +kernel
theorem d_X7_ahead_54 : decode prog_9_method_56_code 54 = .ok (.ifCond .ne 5, 3) := by decide +kernel
theorem d_X7_ahead_57 : decode prog_9_method_56_code 57 = .ok (.iload_n 2, 1) := by decide +kernel
theorem d_X7_ahead_58 : decode prog_9_method_56_code 58 = .ok (.ireturn, 1) := by decide +kernel
theorem d_X7_ahead_59 : decode prog_9_method_56_code 59 = .ok (.iconst 0, 1) := by decide +kernel
theorem d_X7_ahead_60 : decode prog_9_method_56_code 60 = .ok (.istore_n 3, 1) := by decide +kernel
theorem d_X7_ahead_61 : decode prog_9_method_56_code 61 = .ok (.iconst 0, 1) := by decide +kernel
theorem d_X7_ahead_62 : decode prog_9_method_56_code 62 = .ok (.istore 4, 2) := by decide +kernel
theorem d_X7_ahead_64 : decode prog_9_method_56_code 64 = .ok (.iload 4, 2) := by decide +kernel
theorem d_X7_ahead_66 : decode prog_9_method_56_code 66 = .ok (.aload_n 0, 1) := by decide +kernel
theorem d_X7_ahead_67 : decode prog_9_method_56_code 67 = .ok (.getfield 72, 3) := by decide +kernel
theorem d_X7_ahead_70 : decode prog_9_method_56_code 70 = .ok (.if_icmp .ge 37, 3) := by decide +kernel
theorem d_X7_ahead_73 : decode prog_9_method_56_code 73 = .ok (.iload_n 3, 1) := by decide +kernel
theorem d_X7_ahead_74 : decode prog_9_method_56_code 74 = .ok (.aload_n 0, 1) := by decide +kernel
theorem d_X7_ahead_75 : decode prog_9_method_56_code 75 = .ok (.getfield 22, 3) := by decide +kernel
theorem d_X7_ahead_78 : decode prog_9_method_56_code 78 = .ok (.iload 4, 2) := by decide +kernel
theorem d_X7_ahead_80 : decode prog_9_method_56_code 80 = .ok (.iaload, 1) := by decide +kernel
theorem d_X7_ahead_81 : decode prog_9_method_56_code 81 = .ok (.aload_n 0, 1) := by decide +kernel
theorem d_X7_ahead_82 : decode prog_9_method_56_code 82 = .ok (.getfield 16, 3) := by decide +kernel
theorem d_X7_ahead_85 : decode prog_9_method_56_code 85 = .ok (.iload 4, 2) := by decide +kernel
theorem d_X7_ahead_87 : decode prog_9_method_56_code 87 = .ok (.iaload, 1) := by decide +kernel
theorem d_X7_ahead_88 : decode prog_9_method_56_code 88 = .ok (.if_icmp .ne 7, 3) := by decide +kernel
theorem d_X7_ahead_91 : decode prog_9_method_56_code 91 = .ok (.iconst 0, 1) := by decide +kernel
theorem d_X7_ahead_92 : decode prog_9_method_56_code 92 = .ok (.goto 7, 3) := by decide +kernel
theorem d_X7_ahead_95 : decode prog_9_method_56_code 95 = .ok (.iconst 1, 1) := by decide +kernel
theorem d_X7_ahead_96 : decode prog_9_method_56_code 96 = .ok (.iload 4, 2) := by decide +kernel
theorem d_X7_ahead_98 : decode prog_9_method_56_code 98 = .ok (.ishl, 1) := by decide +kernel
theorem d_X7_ahead_99 : decode prog_9_method_56_code 99 = .ok (.ior, 1) := by decide +kernel
theorem d_X7_ahead_100 : decode prog_9_method_56_code 100 = .ok (.istore_n 3, 1) := by decide +kernel
theorem d_X7_ahead_101 : decode prog_9_method_56_code 101 = .ok (.iinc 4 1, 3) := by decide +kernel
theorem d_X7_ahead_104 : decode prog_9_method_56_code 104 = .ok (.goto (-40), 3) := by decide +kernel
theorem d_X7_ahead_107 : decode prog_9_method_56_code 107 = .ok (.iload_n 1, 1) := by decide +kernel
theorem d_X7_ahead_108 : decode prog_9_method_56_code 108 = .ok (.iconst 1, 1) := by decide +kernel
theorem d_X7_ahead_109 : decode prog_9_method_56_code 109 = .ok (.if_icmp .ne 14, 3) := by decide +kernel
theorem d_X7_ahead_112 : decode prog_9_method_56_code 112 = .ok (.aload_n 0, 1) := by decide +kernel
theorem d_X7_ahead_113 : decode prog_9_method_56_code 113 = .ok (.aload_n 0, 1) := by decide +kernel
theorem d_X7_ahead_114 : decode prog_9_method_56_code 114 = .ok (.getfield 22, 3) := by decide +kernel
theorem d_X7_ahead_117 : decode prog_9_method_56_code 117 = .ok (.invokevirtual 203, 3) := by decide +kernel
theorem d_X7_ahead_120 : decode prog_9_method_56_code 120 = .ok (.goto 16, 3) := by decide +kernel
theorem d_X7_ahead_123 : decode prog_9_method_56_code 123 = .ok (.iload_n 1, 1) := by decide +kernel
theorem d_X7_ahead_124 : decode prog_9_method_56_code 124 = .ok (.iconst 2, 1) := by decide +kernel
theorem d_X7_ahead_125 : decode prog_9_method_56_code 125 = .ok (.if_icmp .ne 7, 3) := by decide +kernel
theorem d_X7_ahead_128 : decode prog_9_method_56_code 128 = .ok (.iload_n 3, 1) := by decide +kernel
theorem d_X7_ahead_129 : decode prog_9_method_56_code 129 = .ok (.goto 7, 3) := by decide +kernel
theorem d_X7_ahead_132 : decode prog_9_method_56_code 132 = .ok (.aload_n 0, 1) := by decide +kernel
theorem d_X7_ahead_133 : decode prog_9_method_56_code 133 = .ok (.getfield 181, 3) := by decide +kernel
theorem d_X7_ahead_136 : decode prog_9_method_56_code 136 = .ok (.ireturn, 1) := by decide +kernel
abbrev M_Model_ahead : zMT := (⟨"PeriodSlotsModel", "ahead", "(I)I"⟩, prog_9_method_56_code, 5, (some .int))
theorem k_Model_ahead : zcall M_Model_ahead 1 := ⟨zU_in (i := 1045) (by decide +kernel) rfl, m62, ⟨by decide, by decide, by decide +kernel⟩, by decide⟩
def o_Model_ahead (h : zHp) (what : Int32) : Int32 × zHp :=
  (if (o_Model_in (Int32.toInt64 what) 0 3) = true then (if ((o_Model_runOf (o_Model_layNear (o_Model_copy h 54 56) 56 (o_Model_all h)) 56).1) = (-9) then (((o_Model_runOf (o_Model_layNear (o_Model_copy h 54 56) 56 (o_Model_all h)) 56).1), ((o_Model_runOf (o_Model_layNear (o_Model_copy h 54 56) 56 (o_Model_all h)) 56).2)) else (if what = 0 then (((o_Model_runOf (o_Model_layNear (o_Model_copy h 54 56) 56 (o_Model_all h)) 56).1), ((o_Model_runOf (o_Model_layNear (o_Model_copy h 54 56) 56 (o_Model_all h)) 56).2)) else ((if what = 1 then (o_Model_withOffset ((o_Model_runOf (o_Model_layNear (o_Model_copy h 54 56) 56 (o_Model_all h)) 56).2) 56) else (if what = 2 then (zrep (fun (i64_7 : Nat) (s64_7 : Int32) => (s64_7 ||| (if (((o_Model_runOf (o_Model_layNear (o_Model_copy h 54 56) 56 (o_Model_all h)) 56).2) 56 i64_7) = (h 54 i64_7) then 0 else (zshl 1 (nI i64_7))))) 0 (zcn (h 51 1))) else (((o_Model_runOf (o_Model_layNear (o_Model_copy h 54 56) 56 (o_Model_all h)) 56).2) 51 11))), ((o_Model_runOf (o_Model_layNear (o_Model_copy h 54 56) 56 (o_Model_all h)) 56).2)))) else ((-2), h))
theorem fr_Model_ahead {h : zHp} {what : Int32} (c k : Nat) (q0 : ¬ (c = 51 ∧ k = 9)) (q1 : c ≠ 66) (q2 : c ≠ 56) (q3 : ¬ (c = 51 ∧ k = 10)) (q4 : ¬ (c = 51 ∧ k = 11)) (q5 : c ≠ 67) (q6 : c ≠ 68) : (o_Model_ahead h what).2 c k = h c k := by
  unfold o_Model_ahead
  by_cases f1 : (o_Model_in (Int32.toInt64 what) 0 3) = true
  · rw [if_pos f1]
    by_cases f2 : ((o_Model_runOf (o_Model_layNear (o_Model_copy h 54 56) 56 (o_Model_all h)) 56).1) = (-9)
    · rw [if_pos f2]
      try dsimp only
      first | done | exact ((fr_Model_runOf _ _ (by assumption) (by assumption) (by assumption) (by assumption) (by assumption)).trans ((fr_Model_layNear _ _ (by assumption) (by assumption)).trans (fr_Model_copy _ _ (by assumption))))
    · rw [if_neg f2]
      by_cases f3 : what = 0
      · rw [if_pos f3]
        try dsimp only
        first | done | exact ((fr_Model_runOf _ _ (by assumption) (by assumption) (by assumption) (by assumption) (by assumption)).trans ((fr_Model_layNear _ _ (by assumption) (by assumption)).trans (fr_Model_copy _ _ (by assumption))))
      · rw [if_neg f3]
        try dsimp only
        first | done | exact ((fr_Model_runOf _ _ (by assumption) (by assumption) (by assumption) (by assumption) (by assumption)).trans ((fr_Model_layNear _ _ (by assumption) (by assumption)).trans (fr_Model_copy _ _ (by assumption))))
  · rw [if_neg f1]
    try dsimp only
    first | done | exact rfl
set_option maxHeartbeats 400000 in
set_option maxRecDepth 20000 in
theorem c_Model_ahead (X : zXT) (h : zHp) (g : zLg) (what : Int32) (hf0 : zfit h 51 1 8) (hper : zper h) : zDi X M_Model_ahead 8 [zR X 51, .int what] h g (zI ((o_Model_ahead h what).1)) ((o_Model_ahead h what).2) g := by
  have hf0_1 := hf0.1
  refine zDi_of "PeriodSlotsModel" prog_9_method_56_code 5 (some .int) rfl (by decide) [zO X 51, zI what, none, none, none] rfl (fun _ q => q) (Nat.le_of_ble_eq_true rfl) ?_
  intro Γ Q C hQ
  refine zr_iload_n C d_X7_ahead_0 rfl ?_
  refine zr_i2l C d_X7_ahead_1 ?_
  refine zr_lconst C (v := 0) d_X7_ahead_2 (by decide) ?_
  refine zr_ldc2 C (v := 3) m1046 d_X7_ahead_3 ?_
  refine zr_callSi (As := [.long (Int32.toInt64 what), .long 0, .long 3]) (st := []) C (c_Model_in X h g (Int32.toInt64 what) 0 3) k_Model_in m856 m857 rfl (by decide) rfl (Nat.le_of_ble_eq_true rfl) d_X7_ahead_6 ?_
  refine zr_ifz_ne C 15 d_X7_ahead_9 (by decide) (fun c9 => ?_) (fun c9 => ?_)
  · have ex1 := zin (N := 3) c9 (by decide) (by decide)
    have ex1_2 := ex1.2
    refine zr_aload_n C d_X7_ahead_15 rfl ?_
    refine gf_Model_4 C m757 d_X7_ahead_16 ?_
    refine zr_aload_n C d_X7_ahead_19 rfl ?_
    refine gf_Model_6 C m759 d_X7_ahead_20 ?_
    refine zr_callSv (As := [zR X 54, zR X 56]) (st := []) C (c_Model_copy X h g 54 56 (by decide) (by decide)) k_Model_copy m1027 m1028 rfl (by decide) rfl (Nat.le_of_ble_eq_true rfl) d_X7_ahead_23 ?_
    refine zr_h (fun h2 eh2 => ?_)
    refine zr_aload_n C d_X7_ahead_26 rfl ?_
    refine zr_aload_n C d_X7_ahead_27 rfl ?_
    refine gf_Model_6 C m759 d_X7_ahead_28 ?_
    refine zr_aload_n C d_X7_ahead_31 rfl ?_
    refine zr_callVi (As := []) (st := [zR X 56, zR X 51]) (c := 51) C (c_Model_all X h2 g ) k_Model_all m901 m903 m25 (by decide) (zC_Model X _ _) rfl rfl (by decide) rfl (Nat.le_of_ble_eq_true rfl) d_X7_ahead_32 ?_
    refine zr_top (rd_Model_all ((congrFun (congrFun eh2.symm _) _).trans (fr_Model_copy _ _ (by omega)))) ?_
    refine zr_callVv (As := [zR X 56, .int (o_Model_all h)]) (st := []) (c := 51) C (c_Model_layNear X h2 g 56 (o_Model_all h) (by decide) (zfit_fr ((congrFun (congrFun eh2.symm _) _).trans (fr_Model_copy _ _ (by omega))) hf0)) k_Model_layNear m905 m907 m26 (by decide) (zC_Model X _ _) rfl rfl (by decide) rfl (Nat.le_of_ble_eq_true rfl) d_X7_ahead_35 ?_
    refine zr_h (fun h3 eh3 => ?_)
    refine zr_aload_n C d_X7_ahead_38 rfl ?_
    refine zr_aload_n C d_X7_ahead_39 rfl ?_
    refine gf_Model_6 C m759 d_X7_ahead_40 ?_
    refine zr_callVi (As := [zR X 56]) (st := []) (c := 51) C (c_Model_runOf X h3 g 56 (by decide) (zfit_fr ((congrFun (congrFun eh3.symm _) _).trans ((fr_Model_layNear _ _ (by omega) (by omega)).trans ((congrFun (congrFun eh2.symm _) _).trans (fr_Model_copy _ _ (by omega))))) hf0) (zper_fr ((congrFun (congrFun eh3.symm _) _).trans ((fr_Model_layNear _ _ (by omega) (by omega)).trans ((congrFun (congrFun eh2.symm _) _).trans (fr_Model_copy _ _ (by omega))))) (fun v => ((congrFun (congrFun eh3.symm _) _).trans ((fr_Model_layNear _ _ (by omega) (by omega)).trans ((congrFun (congrFun eh2.symm _) _).trans (fr_Model_copy _ _ (by omega)))))) hper)) k_Model_runOf m1034 m1036 m45 (by decide) (zC_Model X _ _) rfl rfl (by decide) rfl (Nat.le_of_ble_eq_true rfl) d_X7_ahead_43 ?_
    refine zr_vi (fun y4 ey4 => ?_)
    refine zr_h (fun h5 eh5 => ?_)
    refine zr_istore_n C [zO X 51, zI what, zI y4, none, none] d_X7_ahead_46 (Nat.le_of_ble_eq_true rfl) rfl rfl ?_
    refine zr_iload_n C d_X7_ahead_47 rfl ?_
    refine zr_bipush C (v := (-9)) d_X7_ahead_48 (by decide) ?_
    refine zr_icmp_eq C 57 d_X7_ahead_50 (by decide) (fun c50 => ?_) (fun c50 => ?_)
    · refine zr_iload_n C d_X7_ahead_57 rfl ?_
      have eR : o_Model_ahead h what = (y4, h5) := (by subst eh5 ey4 eh3 eh2; unfold o_Model_ahead; rw [if_pos c9, if_pos c50])
      subst hQ
      exact zTQ_Ih eR (zr_ireti C d_X7_ahead_58)
    · refine zr_iload_n C d_X7_ahead_53 rfl ?_
      refine zr_if_ne C 59 d_X7_ahead_54 (by decide) (fun c54 => ?_) (fun c54 => ?_)
      · have en6 := zn_ne (a := zcn what) (b := 0) (zix ex1.1) rfl c54 (zcn_small _) (by decide)
        refine zr_iconst C (v := 0) d_X7_ahead_59 (by decide) ?_
        refine zr_istore_n C [zO X 51, zI what, zI y4, zI 0, none] d_X7_ahead_60 (Nat.le_of_ble_eq_true rfl) rfl rfl ?_
        refine zr_iconst C (v := 0) d_X7_ahead_61 (by decide) ?_
        refine zr_istore C [zO X 51, zI what, zI y4, zI 0, zI 0] d_X7_ahead_62 (Nat.le_of_ble_eq_true rfl) rfl rfl ?_
        refine zr_lv [zO X 51, zI what, none, zI 0, zI 0] (by simp [zle]) ?_
        refine zfor (f := (fun (i64_7 : Nat) (s64_7 : Int32) => (s64_7 ||| (if (h5 56 i64_7) = (h 54 i64_7) then 0 else (zshl 1 (nI i64_7)))))) (a := 0) (fun i64_7 s64_7 => zV X Γ Q 64 [zO X 51, zI what, none, zI s64_7, zI (nI i64_7)] [] h5 g) (fun _ _ => True) (zcn (h 51 1)) trivial (fun i64_7 s64_7 hi64_7 hI64_7 => ⟨trivial, fun hk64_7 => ?_⟩) (fun r64_7 er64_7 hI64_7 => ?_)
        · refine zr_iload C d_X7_ahead_64 rfl ?_
          refine zr_aload_n C d_X7_ahead_66 rfl ?_
          refine gf_Model_2 C m755 d_X7_ahead_67 ?_
          refine zr_top ((congrFun (congrFun eh5.symm _) _).trans ((fr_Model_runOf _ _ (by omega) (by omega) (by omega) (by omega) (by omega)).trans ((congrFun (congrFun eh3.symm _) _).trans ((fr_Model_layNear _ _ (by omega) (by omega)).trans ((congrFun (congrFun eh2.symm _) _).trans (fr_Model_copy _ _ (by omega))))))) ?_
          refine zr_icmp_ge C 107 d_X7_ahead_70 (by decide) (fun c => absurd c (zge_no rfl (by omega))) (fun _ => ?_)
          refine zr_iload_n C d_X7_ahead_73 rfl ?_
          refine zr_aload_n C d_X7_ahead_74 rfl ?_
          refine gf_Model_6 C m759 d_X7_ahead_75 ?_
          refine zr_iload C d_X7_ahead_78 rfl ?_
          refine zr_iald C za_56 (i64_7) rfl (by omega) (by decide) d_X7_ahead_80 ?_
          refine zr_aload_n C d_X7_ahead_81 rfl ?_
          refine gf_Model_4 C m757 d_X7_ahead_82 ?_
          refine zr_iload C d_X7_ahead_85 rfl ?_
          refine zr_iald C za_54 (i64_7) rfl (by omega) (by decide) d_X7_ahead_87 ?_
          refine zr_top ((congrFun (congrFun eh5.symm _) _).trans ((fr_Model_runOf _ _ (by omega) (by omega) (by omega) (by omega) (by omega)).trans ((congrFun (congrFun eh3.symm _) _).trans ((fr_Model_layNear _ _ (by omega) (by omega)).trans ((congrFun (congrFun eh2.symm _) _).trans (fr_Model_copy _ _ (by omega))))))) ?_
          suffices hJ88 : ∀ (y8 : Int32), (if (h5 56 i64_7) = (h 54 i64_7) then 0 else (zshl 1 (nI i64_7))) = y8 → zV X Γ Q 99 [zO X 51, zI what, none, none, zI (nI i64_7)] [.int y8, .int s64_7] h5 g by
            refine zr_icmp_ne C 95 d_X7_ahead_88 (by decide) (fun c88 => ?_) (fun c88 => ?_)
            · refine zr_iconst C (v := 1) d_X7_ahead_95 (by decide) ?_
              refine zr_iload C d_X7_ahead_96 rfl ?_
              refine zr_ishl C d_X7_ahead_98 ?_
              refine zr_lv [zO X 51, zI what, none, none, zI (nI i64_7)] (by simp [zle]) ?_
              exact hJ88 (zshl 1 (nI i64_7)) (((if_neg c88)))
            · refine zr_iconst C (v := 0) d_X7_ahead_91 (by decide) ?_
              refine zr_goto C 99 d_X7_ahead_92 (by decide) ?_
              refine zr_lv [zO X 51, zI what, none, none, zI (nI i64_7)] (by simp [zle]) ?_
              exact hJ88 0 (((if_pos c88)))
          intro y8 ey8
          refine zr_ior C d_X7_ahead_99 ?_
          refine zr_istore_n C [zO X 51, zI what, none, zI (s64_7 ||| y8), zI (nI i64_7)] d_X7_ahead_100 (Nat.le_of_ble_eq_true rfl) rfl rfl ?_
          refine zr_iinc C [zO X 51, zI what, none, zI (s64_7 ||| y8), zI (nI (i64_7 + 1))] (v := (nI (i64_7 + 1))) d_X7_ahead_101 rfl (zn_add rfl rfl) (Nat.le_of_ble_eq_true rfl) rfl rfl ?_
          refine zr_goto C 64 d_X7_ahead_104 (by decide) ?_
          exact hk64_7 (s64_7 ||| y8) (by subst ey8; exact rfl)
        refine zr_iload C d_X7_ahead_64 rfl ?_
        refine zr_aload_n C d_X7_ahead_66 rfl ?_
        refine gf_Model_2 C m755 d_X7_ahead_67 ?_
        refine zr_top ((congrFun (congrFun eh5.symm _) _).trans ((fr_Model_runOf _ _ (by omega) (by omega) (by omega) (by omega) (by omega)).trans ((congrFun (congrFun eh3.symm _) _).trans ((fr_Model_layNear _ _ (by omega) (by omega)).trans ((congrFun (congrFun eh2.symm _) _).trans (fr_Model_copy _ _ (by omega))))))) ?_
        refine zr_icmp_ge C 107 d_X7_ahead_70 (by decide) (fun _ => ?_) (fun c => absurd (zge_yes rfl (by omega) (by have := zcn_small (h 51 1); omega)) c)
        refine zr_iload_n C d_X7_ahead_107 rfl ?_
        refine zr_iconst C (v := 1) d_X7_ahead_108 (by decide) ?_
        suffices hJ109 : ∀ (y13 : Int32), (if what = 1 then (o_Model_withOffset h5 56) else (if what = 2 then r64_7 else (h5 51 11))) = y13 → zV X Γ Q 136 [none, none, none, none, none] [.int y13] h5 g by
          refine zr_icmp_ne C 123 d_X7_ahead_109 (by decide) (fun c109 => ?_) (fun c109 => ?_)
          · have en9 := zn_ne (a := zcn what) (b := 1) (zix ex1.1) rfl c109 (zcn_small _) (by decide)
            refine zr_iload_n C d_X7_ahead_123 rfl ?_
            refine zr_iconst C (v := 2) d_X7_ahead_124 (by decide) ?_
            refine zr_icmp_ne C 132 d_X7_ahead_125 (by decide) (fun c125 => ?_) (fun c125 => ?_)
            · have en10 := zn_ne (a := zcn what) (b := 2) (zix ex1.1) rfl c125 (zcn_small _) (by decide)
              refine zr_aload_n C d_X7_ahead_132 rfl ?_
              refine gf_Model_29 C m782 d_X7_ahead_133 ?_
              refine zr_lv [none, none, none, none, none] (by simp [zle]) ?_
              exact hJ109 (h5 51 11) (((if_neg c109).trans ((if_neg c125))))
            · have en11 := zn_nne (a := zcn what) (b := 2) (zix ex1.1) rfl c125 (zcn_small _) (by decide)
              refine zr_iload_n C d_X7_ahead_128 rfl ?_
              refine zr_goto C 136 d_X7_ahead_129 (by decide) ?_
              refine zr_lv [none, none, none, none, none] (by simp [zle]) ?_
              exact hJ109 r64_7 (((if_neg c109).trans ((if_pos c125))))
          · have en12 := zn_nne (a := zcn what) (b := 1) (zix ex1.1) rfl c109 (zcn_small _) (by decide)
            refine zr_aload_n C d_X7_ahead_112 rfl ?_
            refine zr_aload_n C d_X7_ahead_113 rfl ?_
            refine gf_Model_6 C m759 d_X7_ahead_114 ?_
            refine zr_callVi (As := [zR X 56]) (st := []) (c := 51) C (c_Model_withOffset X h5 g 56 (by decide) (zfit_fr ((congrFun (congrFun eh5.symm _) _).trans ((fr_Model_runOf _ _ (by omega) (by omega) (by omega) (by omega) (by omega)).trans ((congrFun (congrFun eh3.symm _) _).trans ((fr_Model_layNear _ _ (by omega) (by omega)).trans ((congrFun (congrFun eh2.symm _) _).trans (fr_Model_copy _ _ (by omega))))))) hf0)) k_Model_withOffset m953 m955 m35 (by decide) (zC_Model X _ _) rfl rfl (by decide) rfl (Nat.le_of_ble_eq_true rfl) d_X7_ahead_117 ?_
            refine zr_goto C 136 d_X7_ahead_120 (by decide) ?_
            refine zr_lv [none, none, none, none, none] (by simp [zle]) ?_
            exact hJ109 (o_Model_withOffset h5 56) (((if_pos c109)))
        intro y13 ey13
        have eR : o_Model_ahead h what = (y13, h5) := (by subst ey13 er64_7 eh5 ey4 eh3 eh2; unfold o_Model_ahead; rw [if_pos c9, if_neg c50, if_neg c54])
        subst hQ
        exact zTQ_Ih eR (zr_ireti C d_X7_ahead_136)
      · have en14 := zn_nne (a := zcn what) (b := 0) (zix ex1.1) rfl c54 (zcn_small _) (by decide)
        refine zr_iload_n C d_X7_ahead_57 rfl ?_
        have eR : o_Model_ahead h what = (y4, h5) := (by subst eh5 ey4 eh3 eh2; unfold o_Model_ahead; rw [if_pos c9, if_neg c50, if_pos c54])
        subst hQ
        exact zTQ_Ih eR (zr_ireti C d_X7_ahead_58)
  · refine zr_bipush C (v := (-2)) d_X7_ahead_12 (by decide) ?_
    have eR : o_Model_ahead h what = ((-2), h) := (by unfold o_Model_ahead; rw [if_neg (zbf c9)])
    subst hQ
    exact zTQ_Ih eR (zr_ireti C d_X7_ahead_14)
theorem d_X7_fits_0 : decode prog_9_method_57_code 0 = .ok (.iconst 1, 1) := by decide +kernel
theorem d_X7_fits_1 : decode prog_9_method_57_code 1 = .ok (.istore_n 2, 1) := by decide +kernel
theorem d_X7_fits_2 : decode prog_9_method_57_code 2 = .ok (.iconst 0, 1) := by decide +kernel
theorem d_X7_fits_3 : decode prog_9_method_57_code 3 = .ok (.istore_n 3, 1) := by decide +kernel
theorem d_X7_fits_4 : decode prog_9_method_57_code 4 = .ok (.iload_n 3, 1) := by decide +kernel
theorem d_X7_fits_5 : decode prog_9_method_57_code 5 = .ok (.iload_n 1, 1) := by decide +kernel
theorem d_X7_fits_6 : decode prog_9_method_57_code 6 = .ok (.if_icmp .ge 66, 3) := by decide +kernel
theorem d_X7_fits_9 : decode prog_9_method_57_code 9 = .ok (.iload_n 2, 1) := by decide +kernel
theorem d_X7_fits_10 : decode prog_9_method_57_code 10 = .ok (.ifCond .eq 54, 3) := by decide +kernel
theorem d_X7_fits_13 : decode prog_9_method_57_code 13 = .ok (.aload_n 0, 1) := by decide +kernel
theorem d_X7_fits_14 : decode prog_9_method_57_code 14 = .ok (.getfield 53, 3) := by decide +kernel
theorem d_X7_fits_17 : decode prog_9_method_57_code 17 = .ok (.iload_n 1, 1) := by decide +kernel
theorem d_X7_fits_18 : decode prog_9_method_57_code 18 = .ok (.iaload, 1) := by decide +kernel
theorem d_X7_fits_19 : decode prog_9_method_57_code 19 = .ok (.iload_n 3, 1) := by decide +kernel
theorem d_X7_fits_20 : decode prog_9_method_57_code 20 = .ok (.invokestatic 107, 3) := by decide +kernel
theorem d_X7_fits_23 : decode prog_9_method_57_code 23 = .ok (.ifCond .eq 37, 3) := by decide +kernel
theorem d_X7_fits_26 : decode prog_9_method_57_code 26 = .ok (.aload_n 0, 1) := by decide +kernel
theorem d_X7_fits_27 : decode prog_9_method_57_code 27 = .ok (.getfield 62, 3) := by decide +kernel
theorem d_X7_fits_30 : decode prog_9_method_57_code 30 = .ok (.iload_n 1, 1) := by decide +kernel
theorem d_X7_fits_31 : decode prog_9_method_57_code 31 = .ok (.iaload, 1) := by decide +kernel
theorem d_X7_fits_32 : decode prog_9_method_57_code 32 = .ok (.aload_n 0, 1) := by decide +kernel
theorem d_X7_fits_33 : decode prog_9_method_57_code 33 = .ok (.getfield 13, 3) := by decide +kernel
theorem d_X7_fits_36 : decode prog_9_method_57_code 36 = .ok (.iload_n 1, 1) := by decide +kernel
theorem d_X7_fits_37 : decode prog_9_method_57_code 37 = .ok (.iaload, 1) := by decide +kernel
theorem d_X7_fits_38 : decode prog_9_method_57_code 38 = .ok (.invokestatic 127, 3) := by decide +kernel
theorem d_X7_fits_41 : decode prog_9_method_57_code 41 = .ok (.aload_n 0, 1) := by decide +kernel
theorem d_X7_fits_42 : decode prog_9_method_57_code 42 = .ok (.getfield 62, 3) := by decide +kernel
theorem d_X7_fits_45 : decode prog_9_method_57_code 45 = .ok (.iload_n 3, 1) := by decide +kernel
theorem d_X7_fits_46 : decode prog_9_method_57_code 46 = .ok (.iaload, 1) := by decide +kernel
theorem d_X7_fits_47 : decode prog_9_method_57_code 47 = .ok (.aload_n 0, 1) := by decide +kernel
theorem d_X7_fits_48 : decode prog_9_method_57_code 48 = .ok (.getfield 13, 3) := by decide +kernel
theorem d_X7_fits_51 : decode prog_9_method_57_code 51 = .ok (.iload_n 3, 1) := by decide +kernel
theorem d_X7_fits_52 : decode prog_9_method_57_code 52 = .ok (.iaload, 1) := by decide +kernel
theorem d_X7_fits_53 : decode prog_9_method_57_code 53 = .ok (.invokestatic 127, 3) := by decide +kernel
theorem d_X7_fits_56 : decode prog_9_method_57_code 56 = .ok (.iand, 1) := by decide +kernel
theorem d_X7_fits_57 : decode prog_9_method_57_code 57 = .ok (.ifCond .ne 7, 3) := by decide +kernel
theorem d_X7_fits_60 : decode prog_9_method_57_code 60 = .ok (.iconst 1, 1) := by decide +kernel
theorem d_X7_fits_61 : decode prog_9_method_57_code 61 = .ok (.goto 4, 3) := by decide +kernel
theorem d_X7_fits_64 : decode prog_9_method_57_code 64 = .ok (.iconst 0, 1) := by decide +kernel
theorem d_X7_fits_65 : decode prog_9_method_57_code 65 = .ok (.istore_n 2, 1) := by decide +kernel
theorem d_X7_fits_66 : decode prog_9_method_57_code 66 = .ok (.iinc 3 1, 3) := by decide +kernel
theorem d_X7_fits_69 : decode prog_9_method_57_code 69 = .ok (.goto (-65), 3) := by decide +kernel
theorem d_X7_fits_72 : decode prog_9_method_57_code 72 = .ok (.iload_n 2, 1) := by decide +kernel
theorem d_X7_fits_73 : decode prog_9_method_57_code 73 = .ok (.ireturn, 1) := by decide +kernel
abbrev M_Model_fits : zMT := (⟨"PeriodSlotsModel", "fits", "(I)Z"⟩, prog_9_method_57_code, 4, (some .boolean))
theorem k_Model_fits : zcall M_Model_fits 1 := ⟨zU_in (i := 1058) (by decide +kernel) rfl, m62, ⟨by decide, by decide, by decide +kernel⟩, by decide⟩
def o_Model_fits (h : zHp) (s : Nat) : Bool :=
  (zrep (fun (i4_3 : Nat) (s4_3 : Bool) => (s4_3 && (!(o_Model_has (h 66 s) (nI i4_3)) || (decide (((o_Model_ticksOf (h 69 s) (h 53 s)) &&& (o_Model_ticksOf (h 69 i4_3) (h 53 i4_3))) = 0))))) true s)
theorem rd_Model_fits {h h2 : zHp} {s : Nat} (e0 : h2 53 = h 53) (e1 : h2 66 = h 66) (e2 : h2 69 = h 69) : o_Model_fits h2 s = o_Model_fits h s := by
  unfold o_Model_fits
  simp only [e0, e1, e2]

set_option maxHeartbeats 400000 in
set_option maxRecDepth 20000 in
theorem c_Model_fits (X : zXT) (h : zHp) (g : zLg) (s : Nat) {x_s : Int32} (e_s : x_s = nI s) (hf0 : zfit h 51 1 8) (hper : zper h) (hl2 : s < 8) (hsn : s < zcn (h 51 1)) : zDi X M_Model_fits 1 [zR X 51, .int x_s] h g (zI (zb (o_Model_fits h s))) h g := by
  subst e_s
  have hf0_1 := hf0.1
  refine zDi_of "PeriodSlotsModel" prog_9_method_57_code 4 (some .boolean) rfl (by decide) [zO X 51, zI (nI s), none, none] rfl (fun _ q => q) (Nat.le_of_ble_eq_true rfl) ?_
  intro Γ Q C hQ
  refine zr_iconst C (v := 1) d_X7_fits_0 (by decide) ?_
  refine zr_istore_n C [zO X 51, zI (nI s), zI 1, none] d_X7_fits_1 (Nat.le_of_ble_eq_true rfl) rfl rfl ?_
  refine zr_iconst C (v := 0) d_X7_fits_2 (by decide) ?_
  refine zr_istore_n C [zO X 51, zI (nI s), zI 1, zI 0] d_X7_fits_3 (Nat.le_of_ble_eq_true rfl) rfl rfl ?_
  refine zfor (f := (fun (i4_3 : Nat) (s4_3 : Bool) => (s4_3 && (!(o_Model_has (h 66 s) (nI i4_3)) || (decide (((o_Model_ticksOf (h 69 s) (h 53 s)) &&& (o_Model_ticksOf (h 69 i4_3) (h 53 i4_3))) = 0)))))) (a := true) (fun i4_3 s4_3 => zV X Γ Q 4 [zO X 51, zI (nI s), zI (zb s4_3), zI (nI i4_3)] [] h g) (fun _ _ => True) (s) trivial (fun i4_3 s4_3 hi4_3 hI4_3 => ⟨trivial, fun hk4_3 => ?_⟩) (fun r4_3 er4_3 hI4_3 => ?_)
  · refine zr_iload_n C d_X7_fits_4 rfl ?_
    refine zr_iload_n C d_X7_fits_5 rfl ?_
    refine zr_icmp_ge C 72 d_X7_fits_6 (by decide) (fun c => absurd c (zge_noN (B := s) rfl (by omega) (by omega))) (fun _ => ?_)
    refine zr_iload_n C d_X7_fits_9 rfl ?_
    suffices hJ10 : ∀ (y4 : Bool), (s4_3 && (!(o_Model_has (h 66 s) (nI i4_3)) || (decide (((o_Model_ticksOf (h 69 s) (h 53 s)) &&& (o_Model_ticksOf (h 69 i4_3) (h 53 i4_3))) = 0)))) = y4 → zV X Γ Q 65 [zO X 51, zI (nI s), none, zI (nI i4_3)] [.int (zb y4)] h g by
      refine zr_ifz_eq C 64 d_X7_fits_10 (by decide) (fun c10 => ?_) (fun c10 => ?_)
      · refine zr_iconst C (v := 0) d_X7_fits_64 (by decide) ?_
        refine zr_lv [zO X 51, zI (nI s), none, zI (nI i4_3)] (by simp [zle]) ?_
        exact hJ10 false (by simp [c10])
      · refine zr_aload_n C d_X7_fits_13 rfl ?_
        refine gf_Model_25 C m778 d_X7_fits_14 ?_
        refine zr_iload_n C d_X7_fits_17 rfl ?_
        refine zr_iald C za_66 (s) rfl (by omega) (by decide) d_X7_fits_18 ?_
        refine zr_iload_n C d_X7_fits_19 rfl ?_
        refine zr_callSi (As := [.int (h 66 s), .int (nI i4_3)]) (st := []) C (c_Model_has X h g (h 66 s) (nI i4_3)) k_Model_has m890 m891 rfl (by decide) rfl (Nat.le_of_ble_eq_true rfl) d_X7_fits_20 ?_
        refine zr_ifz_eq C 60 d_X7_fits_23 (by decide) (fun c23 => ?_) (fun c23 => ?_)
        · refine zr_iconst C (v := 1) d_X7_fits_60 (by decide) ?_
          refine zr_goto C 65 d_X7_fits_61 (by decide) ?_
          refine zr_lv [zO X 51, zI (nI s), none, zI (nI i4_3)] (by simp [zle]) ?_
          exact hJ10 true (by simp [c10, c23])
        · refine zr_aload_n C d_X7_fits_26 rfl ?_
          refine gf_Model_30 C m783 d_X7_fits_27 ?_
          refine zr_iload_n C d_X7_fits_30 rfl ?_
          refine zr_iald C za_69 (s) rfl (by omega) (by decide) d_X7_fits_31 ?_
          refine zr_aload_n C d_X7_fits_32 rfl ?_
          refine gf_Model_3 C m756 d_X7_fits_33 ?_
          refine zr_iload_n C d_X7_fits_36 rfl ?_
          refine zr_iald C za_53 (s) rfl (by omega) (by decide) d_X7_fits_37 ?_
          refine zr_callSi (As := [.int (h 69 s), .int (h 53 s)]) (st := []) C (c_Model_ticksOf X h g (h 69 s) (h 53 s) (hper s (by omega))) k_Model_ticksOf m928 m929 rfl (by decide) rfl (Nat.le_of_ble_eq_true rfl) d_X7_fits_38 ?_
          refine zr_aload_n C d_X7_fits_41 rfl ?_
          refine gf_Model_30 C m783 d_X7_fits_42 ?_
          refine zr_iload_n C d_X7_fits_45 rfl ?_
          refine zr_iald C za_69 (i4_3) rfl (by omega) (by decide) d_X7_fits_46 ?_
          refine zr_aload_n C d_X7_fits_47 rfl ?_
          refine gf_Model_3 C m756 d_X7_fits_48 ?_
          refine zr_iload_n C d_X7_fits_51 rfl ?_
          refine zr_iald C za_53 (i4_3) rfl (by omega) (by decide) d_X7_fits_52 ?_
          refine zr_callSi (As := [.int (h 69 i4_3), .int (h 53 i4_3)]) (st := [.int (o_Model_ticksOf (h 69 s) (h 53 s))]) C (c_Model_ticksOf X h g (h 69 i4_3) (h 53 i4_3) (hper i4_3 (by omega))) k_Model_ticksOf m928 m929 rfl (by decide) rfl (Nat.le_of_ble_eq_true rfl) d_X7_fits_53 ?_
          refine zr_iand C d_X7_fits_56 ?_
          refine zr_if_ne C 64 d_X7_fits_57 (by decide) (fun c57 => ?_) (fun c57 => ?_)
          · refine zr_iconst C (v := 0) d_X7_fits_64 (by decide) ?_
            refine zr_lv [zO X 51, zI (nI s), none, zI (nI i4_3)] (by simp [zle]) ?_
            exact hJ10 false (by simp [c10, c23, c57])
          · refine zr_iconst C (v := 1) d_X7_fits_60 (by decide) ?_
            refine zr_goto C 65 d_X7_fits_61 (by decide) ?_
            refine zr_lv [zO X 51, zI (nI s), none, zI (nI i4_3)] (by simp [zle]) ?_
            exact hJ10 true (by simp [c10, c23, c57])
    intro y4 ey4
    refine zr_istore_n C [zO X 51, zI (nI s), zI (zb y4), zI (nI i4_3)] d_X7_fits_65 (Nat.le_of_ble_eq_true rfl) rfl rfl ?_
    refine zr_iinc C [zO X 51, zI (nI s), zI (zb y4), zI (nI (i4_3 + 1))] (v := (nI (i4_3 + 1))) d_X7_fits_66 rfl (zn_add rfl rfl) (Nat.le_of_ble_eq_true rfl) rfl rfl ?_
    refine zr_goto C 4 d_X7_fits_69 (by decide) ?_
    exact hk4_3 y4 (by subst ey4; exact rfl)
  refine zr_iload_n C d_X7_fits_4 rfl ?_
  refine zr_iload_n C d_X7_fits_5 rfl ?_
  refine zr_icmp_ge C 72 d_X7_fits_6 (by decide) (fun _ => ?_) (fun c => absurd (zge_yesN (B := s) rfl (by omega) (by omega)) c)
  refine zr_iload_n C d_X7_fits_72 rfl ?_
  have eR : o_Model_fits h s = r4_3 := (by subst er4_3; unfold o_Model_fits; exact rfl)
  subst hQ
  rw [eR]
  exact zr_iretz C (zb_01 _) d_X7_fits_73
theorem d_X7_shifted_0 : decode prog_9_method_60_code 0 = .ok (.aload_n 0, 1) := by decide +kernel
theorem d_X7_shifted_1 : decode prog_9_method_60_code 1 = .ok (.iload_n 1, 1) := by decide +kernel
theorem d_X7_shifted_2 : decode prog_9_method_60_code 2 = .ok (.invokevirtual 212, 3) := by decide +kernel
theorem d_X7_shifted_5 : decode prog_9_method_60_code 5 = .ok (.ifCond .ne 5, 3) := by decide +kernel
theorem d_X7_shifted_8 : decode prog_9_method_60_code 8 = .ok (.iconst (-1), 1) := by decide +kernel
theorem d_X7_shifted_9 : decode prog_9_method_60_code 9 = .ok (.ireturn, 1) := by decide +kernel
theorem d_X7_shifted_10 : decode prog_9_method_60_code 10 = .ok (.iload_n 2, 1) := by decide +kernel
theorem d_X7_shifted_11 : decode prog_9_method_60_code 11 = .ok (.i2l, 1) := by decide +kernel
theorem d_X7_shifted_12 : decode prog_9_method_60_code 12 = .ok (.lconst 0, 1) := by decide +kernel
theorem d_X7_shifted_13 : decode prog_9_method_60_code 13 = .ok (.ldc2_w 231, 3) := by decide +kernel
theorem d_X7_shifted_16 : decode prog_9_method_60_code 16 = .ok (.invokestatic 76, 3) := by decide +kernel
theorem d_X7_shifted_19 : decode prog_9_method_60_code 19 = .ok (.ifCond .ne 6, 3) := by decide +kernel
theorem d_X7_shifted_22 : decode prog_9_method_60_code 22 = .ok (.bipush (-2), 2) := by decide +kernel
theorem d_X7_shifted_24 : decode prog_9_method_60_code 24 = .ok (.ireturn, 1) := by decide +kernel
theorem d_X7_shifted_25 : decode prog_9_method_60_code 25 = .ok (.aload_n 0, 1) := by decide +kernel
theorem d_X7_shifted_26 : decode prog_9_method_60_code 26 = .ok (.getfield 16, 3) := by decide +kernel
theorem d_X7_shifted_29 : decode prog_9_method_60_code 29 = .ok (.aload_n 0, 1) := by decide +kernel
theorem d_X7_shifted_30 : decode prog_9_method_60_code 30 = .ok (.getfield 22, 3) := by decide +kernel
theorem d_X7_shifted_33 : decode prog_9_method_60_code 33 = .ok (.invokestatic 236, 3) := by decide +kernel
theorem d_X7_shifted_36 : decode prog_9_method_60_code 36 = .ok (.aload_n 0, 1) := by decide +kernel
theorem d_X7_shifted_37 : decode prog_9_method_60_code 37 = .ok (.aload_n 0, 1) := by decide +kernel
theorem d_X7_shifted_38 : decode prog_9_method_60_code 38 = .ok (.getfield 22, 3) := by decide +kernel
theorem d_X7_shifted_41 : decode prog_9_method_60_code 41 = .ok (.aload_n 0, 1) := by decide +kernel
theorem d_X7_shifted_42 : decode prog_9_method_60_code 42 = .ok (.aload_n 0, 1) := by decide +kernel
theorem d_X7_shifted_43 : decode prog_9_method_60_code 43 = .ok (.getfield 22, 3) := by decide +kernel
theorem d_X7_shifted_46 : decode prog_9_method_60_code 46 = .ok (.iload_n 1, 1) := by decide +kernel
theorem d_X7_shifted_47 : decode prog_9_method_60_code 47 = .ok (.invokevirtual 194, 3) := by decide +kernel
theorem d_X7_shifted_50 : decode prog_9_method_60_code 50 = .ok (.iload_n 2, 1) := by decide +kernel
theorem d_X7_shifted_51 : decode prog_9_method_60_code 51 = .ok (.invokevirtual 233, 3) := by decide +kernel
theorem d_X7_shifted_54 : decode prog_9_method_60_code 54 = .ok (.aload_n 0, 1) := by decide +kernel
theorem d_X7_shifted_55 : decode prog_9_method_60_code 55 = .ok (.aload_n 0, 1) := by decide +kernel
theorem d_X7_shifted_56 : decode prog_9_method_60_code 56 = .ok (.getfield 22, 3) := by decide +kernel
theorem d_X7_shifted_59 : decode prog_9_method_60_code 59 = .ok (.invokevirtual 200, 3) := by decide +kernel
theorem d_X7_shifted_62 : decode prog_9_method_60_code 62 = .ok (.ireturn, 1) := by decide +kernel
abbrev M_Model_shifted : zMT := (⟨"PeriodSlotsModel", "shifted", "(II)I"⟩, prog_9_method_60_code, 3, (some .int))
theorem k_Model_shifted : zcall M_Model_shifted 2 := ⟨zU_in (i := 1062) (by decide +kernel) rfl, m62, ⟨by decide, by decide, by decide +kernel⟩, by decide⟩
def o_Model_shifted (h : zHp) (s : Int32) (d : Int32) : Int32 × zHp :=
  (if (o_Model_isStation h s) = true then (if (o_Model_in (Int32.toInt64 d) 0 7) = true then (((o_Model_clashes (o_Model_shiftOf (o_Model_copy h 54 56) 56 (o_Model_netOf (o_Model_copy h 54 56) 56 s) d) 56).1), ((o_Model_clashes (o_Model_shiftOf (o_Model_copy h 54 56) 56 (o_Model_netOf (o_Model_copy h 54 56) 56 s) d) 56).2)) else ((-2), h)) else ((-1), h))
theorem fr_Model_shifted {h : zHp} {s : Int32} {d : Int32} (c k : Nat) (q0 : ¬ (c = 51 ∧ k = 9)) (q1 : c ≠ 66) (q2 : c ≠ 56) : (o_Model_shifted h s d).2 c k = h c k := by
  unfold o_Model_shifted
  by_cases f1 : (o_Model_isStation h s) = true
  · rw [if_pos f1]
    by_cases f2 : (o_Model_in (Int32.toInt64 d) 0 7) = true
    · rw [if_pos f2]
      try dsimp only
      first | done | exact ((fr_Model_clashes _ _ (by assumption) (by assumption)).trans ((fr_Model_shiftOf _ _ (by assumption)).trans (fr_Model_copy _ _ (by assumption))))
    · rw [if_neg f2]
      try dsimp only
      first | done | exact rfl
  · rw [if_neg f1]
    try dsimp only
    first | done | exact rfl
set_option maxHeartbeats 400000 in
set_option maxRecDepth 20000 in
theorem c_Model_shifted (X : zXT) (h : zHp) (g : zLg) (s : Int32) (d : Int32) (hf0 : zfit h 51 1 8) (hper : zper h) : zDi X M_Model_shifted 4 [zR X 51, .int s, .int d] h g (zI ((o_Model_shifted h s d).1)) ((o_Model_shifted h s d).2) g := by
  have hf0_1 := hf0.1
  refine zDi_of "PeriodSlotsModel" prog_9_method_60_code 3 (some .int) rfl (by decide) [zO X 51, zI s, zI d] rfl (fun _ q => q) (Nat.le_of_ble_eq_true rfl) ?_
  intro Γ Q C hQ
  refine zr_aload_n C d_X7_shifted_0 rfl ?_
  refine zr_iload_n C d_X7_shifted_1 rfl ?_
  refine zr_callVi (As := [.int s]) (st := []) (c := 51) C (c_Model_isStation X h g s) k_Model_isStation m980 m982 m40 (by decide) (zC_Model X _ _) rfl rfl (by decide) rfl (Nat.le_of_ble_eq_true rfl) d_X7_shifted_2 ?_
  refine zr_ifz_ne C 10 d_X7_shifted_5 (by decide) (fun c5 => ?_) (fun c5 => ?_)
  · have ex1 := zist hf0 c5
    have ex1_2 := ex1.2
    have ex1_b := (hf0).1
    refine zr_iload_n C d_X7_shifted_10 rfl ?_
    refine zr_i2l C d_X7_shifted_11 ?_
    refine zr_lconst C (v := 0) d_X7_shifted_12 (by decide) ?_
    refine zr_ldc2 C (v := 7) m1018 d_X7_shifted_13 ?_
    refine zr_callSi (As := [.long (Int32.toInt64 d), .long 0, .long 7]) (st := []) C (c_Model_in X h g (Int32.toInt64 d) 0 7) k_Model_in m856 m857 rfl (by decide) rfl (Nat.le_of_ble_eq_true rfl) d_X7_shifted_16 ?_
    refine zr_ifz_ne C 25 d_X7_shifted_19 (by decide) (fun c19 => ?_) (fun c19 => ?_)
    · have ex2 := zin (N := 7) c19 (by decide) (by decide)
      have ex2_2 := ex2.2
      refine zr_aload_n C d_X7_shifted_25 rfl ?_
      refine gf_Model_4 C m757 d_X7_shifted_26 ?_
      refine zr_aload_n C d_X7_shifted_29 rfl ?_
      refine gf_Model_6 C m759 d_X7_shifted_30 ?_
      refine zr_callSv (As := [zR X 54, zR X 56]) (st := []) C (c_Model_copy X h g 54 56 (by decide) (by decide)) k_Model_copy m1027 m1028 rfl (by decide) rfl (Nat.le_of_ble_eq_true rfl) d_X7_shifted_33 ?_
      refine zr_h (fun h3 eh3 => ?_)
      refine zr_aload_n C d_X7_shifted_36 rfl ?_
      refine zr_aload_n C d_X7_shifted_37 rfl ?_
      refine gf_Model_6 C m759 d_X7_shifted_38 ?_
      refine zr_aload_n C d_X7_shifted_41 rfl ?_
      refine zr_aload_n C d_X7_shifted_42 rfl ?_
      refine gf_Model_6 C m759 d_X7_shifted_43 ?_
      refine zr_iload_n C d_X7_shifted_46 rfl ?_
      refine zr_callVi (As := [zR X 56, .int s]) (st := [zR X 56, zR X 51]) (c := 51) C (c_Model_netOf X h3 g 56 s (by decide) (zfit_fr ((congrFun (congrFun eh3.symm _) _).trans (fr_Model_copy _ _ (by omega))) hf0)) k_Model_netOf m969 m971 m39 (by decide) (zC_Model X _ _) rfl rfl (by decide) rfl (Nat.le_of_ble_eq_true rfl) d_X7_shifted_47 ?_
      refine zr_iload_n C d_X7_shifted_50 rfl ?_
      refine zr_callVv (As := [zR X 56, .int (o_Model_netOf h3 56 s), .int d]) (st := []) (c := 51) C (c_Model_shiftOf X h3 g 56 (o_Model_netOf h3 56 s) d (by decide) (zfit_fr ((congrFun (congrFun eh3.symm _) _).trans (fr_Model_copy _ _ (by omega))) hf0) (zper_fr ((congrFun (congrFun eh3.symm _) _).trans (fr_Model_copy _ _ (by omega))) (fun v => ((congrFun (congrFun eh3.symm _) _).trans (fr_Model_copy _ _ (by omega)))) hper)) k_Model_shiftOf m1019 m1021 m44 (by decide) (zC_Model X _ _) rfl rfl (by decide) rfl (Nat.le_of_ble_eq_true rfl) d_X7_shifted_51 ?_
      refine zr_h (fun h4 eh4 => ?_)
      refine zr_aload_n C d_X7_shifted_54 rfl ?_
      refine zr_aload_n C d_X7_shifted_55 rfl ?_
      refine gf_Model_6 C m759 d_X7_shifted_56 ?_
      refine zr_callVi (As := [zR X 56]) (st := []) (c := 51) C (c_Model_clashes X h4 g 56 (by decide) (zfit_fr ((congrFun (congrFun eh4.symm _) _).trans ((fr_Model_shiftOf _ _ (by omega)).trans ((congrFun (congrFun eh3.symm _) _).trans (fr_Model_copy _ _ (by omega))))) hf0) (zper_fr ((congrFun (congrFun eh4.symm _) _).trans ((fr_Model_shiftOf _ _ (by omega)).trans ((congrFun (congrFun eh3.symm _) _).trans (fr_Model_copy _ _ (by omega))))) (fun v => ((congrFun (congrFun eh4.symm _) _).trans ((fr_Model_shiftOf _ _ (by omega)).trans ((congrFun (congrFun eh3.symm _) _).trans (fr_Model_copy _ _ (by omega)))))) hper)) k_Model_clashes m920 m922 m29 (by decide) (zC_Model X _ _) rfl rfl (by decide) rfl (Nat.le_of_ble_eq_true rfl) d_X7_shifted_59 ?_
      refine zr_vi (fun y5 ey5 => ?_)
      refine zr_h (fun h6 eh6 => ?_)
      have eR : o_Model_shifted h s d = (y5, h6) := (by subst eh6 ey5 eh4 eh3; unfold o_Model_shifted; rw [if_pos c5, if_pos c19])
      subst hQ
      exact zTQ_Ih eR (zr_ireti C d_X7_shifted_62)
    · refine zr_bipush C (v := (-2)) d_X7_shifted_22 (by decide) ?_
      have eR : o_Model_shifted h s d = ((-2), h) := (by unfold o_Model_shifted; rw [if_pos c5, if_neg (zbf c19)])
      subst hQ
      exact zTQ_Ih eR (zr_ireti C d_X7_shifted_24)
  · refine zr_iconst C (v := (-1)) d_X7_shifted_8 (by decide) ?_
    have eR : o_Model_shifted h s d = ((-1), h) := (by unfold o_Model_shifted; rw [if_neg (zbf c5)])
    subst hQ
    exact zTQ_Ih eR (zr_ireti C d_X7_shifted_9)
