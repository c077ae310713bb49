/-! THE ROWS, one check a method (by program) -/
theorem am_pk0 : am_P0.all (am_rowB 10 true none prog_12_method_1_code) = true := by decide +kernel
theorem am_mt0 : am_mtP am_m0 := ⟨am_mi0.2.2.1, by decide +kernel, am_rowBok (fun _ => rfl) am_pk0⟩
theorem am_pk1 : am_P1.all (am_rowB 10 false (some .boolean) prog_12_method_2_code) = true := by decide +kernel
theorem am_mt1 : am_mtP am_m1 := ⟨am_mi1.2.2.1, by decide +kernel, am_rowBok (fun h => by cases h) am_pk1⟩
theorem am_pk2 : am_P2.all (am_rowB 10 false (some .boolean) prog_12_method_3_code) = true := by decide +kernel
theorem am_mt2 : am_mtP am_m2 := ⟨am_mi2.2.2.1, by decide +kernel, am_rowBok (fun h => by cases h) am_pk2⟩
theorem am_pk3 : am_P3.all (am_rowB 10 false (some .int) prog_12_method_4_code) = true := by decide +kernel
theorem am_mt3 : am_mtP am_m3 := ⟨am_mi3.2.2.1, by decide +kernel, am_rowBok (fun h => by cases h) am_pk3⟩
theorem am_pk4 : am_P4.all (am_rowB 10 false (some .int) prog_12_method_5_code) = true := by decide +kernel
theorem am_mt4 : am_mtP am_m4 := ⟨am_mi4.2.2.1, by decide +kernel, am_rowBok (fun h => by cases h) am_pk4⟩
theorem am_pk5 : am_P5.all (am_rowB 10 false (some .boolean) prog_12_method_6_code) = true := by decide +kernel
theorem am_mt5 : am_mtP am_m5 := ⟨am_mi5.2.2.1, by decide +kernel, am_rowBok (fun h => by cases h) am_pk5⟩
theorem am_pk6 : am_P6.all (am_rowB 10 false (some .boolean) prog_12_method_7_code) = true := by decide +kernel
theorem am_mt6 : am_mtP am_m6 := ⟨am_mi6.2.2.1, by decide +kernel, am_rowBok (fun h => by cases h) am_pk6⟩
theorem am_pk7 : am_P7.all (am_rowB 10 false (some .boolean) prog_12_method_8_code) = true := by decide +kernel
theorem am_mt7 : am_mtP am_m7 := ⟨am_mi7.2.2.1, by decide +kernel, am_rowBok (fun h => by cases h) am_pk7⟩
theorem am_pk8 : am_P8.all (am_rowB 10 false (some .boolean) prog_12_method_9_code) = true := by decide +kernel
theorem am_mt8 : am_mtP am_m8 := ⟨am_mi8.2.2.1, by decide +kernel, am_rowBok (fun h => by cases h) am_pk8⟩
theorem am_pk9 : am_P9.all (am_rowB 10 false (some .int) prog_12_method_10_code) = true := by decide +kernel
theorem am_mt9 : am_mtP am_m9 := ⟨am_mi9.2.2.1, by decide +kernel, am_rowBok (fun h => by cases h) am_pk9⟩
theorem am_pk10 : am_P10.all (am_rowB 10 false (some .int) prog_12_method_11_code) = true := by decide +kernel
theorem am_mt10 : am_mtP am_m10 := ⟨am_mi10.2.2.1, by decide +kernel, am_rowBok (fun h => by cases h) am_pk10⟩
theorem am_pk11 : am_P11.all (am_rowB 10 false (some .int) prog_12_method_12_code) = true := by decide +kernel
theorem am_mt11 : am_mtP am_m11 := ⟨am_mi11.2.2.1, by decide +kernel, am_rowBok (fun h => by cases h) am_pk11⟩
theorem am_pk12 : am_P12.all (am_rowB 10 false (some .int) prog_12_method_13_code) = true := by decide +kernel
theorem am_mt12 : am_mtP am_m12 := ⟨am_mi12.2.2.1, by decide +kernel, am_rowBok (fun h => by cases h) am_pk12⟩
theorem am_pk13 : am_P13.all (am_rowB 10 false (some .int) prog_12_method_14_code) = true := by decide +kernel
theorem am_mt13 : am_mtP am_m13 := ⟨am_mi13.2.2.1, by decide +kernel, am_rowBok (fun h => by cases h) am_pk13⟩
theorem am_pk14 : am_P14.all (am_rowB 10 false (some .int) prog_12_method_15_code) = true := by decide +kernel
theorem am_mt14 : am_mtP am_m14 := ⟨am_mi14.2.2.1, by decide +kernel, am_rowBok (fun h => by cases h) am_pk14⟩
theorem am_pk15 : am_P15.all (am_rowB 10 false (some .boolean) prog_12_method_16_code) = true := by decide +kernel
theorem am_mt15 : am_mtP am_m15 := ⟨am_mi15.2.2.1, by decide +kernel, am_rowBok (fun h => by cases h) am_pk15⟩
theorem am_pk16 : am_P16.all (am_rowB 10 false (some .boolean) prog_12_method_17_code) = true := by decide +kernel
theorem am_mt16 : am_mtP am_m16 := ⟨am_mi16.2.2.1, by decide +kernel, am_rowBok (fun h => by cases h) am_pk16⟩
theorem am_pk17 : am_P17.all (am_rowB 10 false (some .boolean) prog_12_method_18_code) = true := by decide +kernel
theorem am_mt17 : am_mtP am_m17 := ⟨am_mi17.2.2.1, by decide +kernel, am_rowBok (fun h => by cases h) am_pk17⟩
theorem am_pk18 : am_P18.all (am_rowB 10 false (some .boolean) prog_12_method_19_code) = true := by decide +kernel
theorem am_mt18 : am_mtP am_m18 := ⟨am_mi18.2.2.1, by decide +kernel, am_rowBok (fun h => by cases h) am_pk18⟩
theorem am_pk19 : am_P19.all (am_rowB 10 false none prog_12_method_20_code) = true := by decide +kernel
theorem am_mt19 : am_mtP am_m19 := ⟨am_mi19.2.2.1, by decide +kernel, am_rowBok (fun h => by cases h) am_pk19⟩
theorem am_pk20 : am_P20.all (am_rowB 10 false none prog_12_method_21_code) = true := by decide +kernel
theorem am_mt20 : am_mtP am_m20 := ⟨am_mi20.2.2.1, by decide +kernel, am_rowBok (fun h => by cases h) am_pk20⟩
theorem am_pk21 : am_P21.all (am_rowB 10 false none prog_12_method_22_code) = true := by decide +kernel
theorem am_mt21 : am_mtP am_m21 := ⟨am_mi21.2.2.1, by decide +kernel, am_rowBok (fun h => by cases h) am_pk21⟩
theorem am_pk22 : am_P22.all (am_rowB 10 false (some .int) prog_12_method_23_code) = true := by decide +kernel
theorem am_mt22 : am_mtP am_m22 := ⟨am_mi22.2.2.1, by decide +kernel, am_rowBok (fun h => by cases h) am_pk22⟩
theorem am_pk23 : am_P23.all (am_rowB 10 false (some .boolean) prog_12_method_24_code) = true := by decide +kernel
theorem am_mt23 : am_mtP am_m23 := ⟨am_mi23.2.2.1, by decide +kernel, am_rowBok (fun h => by cases h) am_pk23⟩
theorem am_pk24 : am_P24.all (am_rowB 10 false (some .boolean) prog_12_method_25_code) = true := by decide +kernel
theorem am_mt24 : am_mtP am_m24 := ⟨am_mi24.2.2.1, by decide +kernel, am_rowBok (fun h => by cases h) am_pk24⟩
theorem am_pk25 : am_P25.all (am_rowB 10 false (some .boolean) prog_12_method_26_code) = true := by decide +kernel
theorem am_mt25 : am_mtP am_m25 := ⟨am_mi25.2.2.1, by decide +kernel, am_rowBok (fun h => by cases h) am_pk25⟩
theorem am_pk26 : am_P26.all (am_rowB 10 false (some .boolean) prog_12_method_27_code) = true := by decide +kernel
theorem am_mt26 : am_mtP am_m26 := ⟨am_mi26.2.2.1, by decide +kernel, am_rowBok (fun h => by cases h) am_pk26⟩
theorem am_pk27 : am_P27.all (am_rowB 10 false (some .boolean) prog_12_method_28_code) = true := by decide +kernel
theorem am_mt27 : am_mtP am_m27 := ⟨am_mi27.2.2.1, by decide +kernel, am_rowBok (fun h => by cases h) am_pk27⟩
theorem am_pk28 : am_P28.all (am_rowB 10 false (some .int) prog_12_method_29_code) = true := by decide +kernel
theorem am_mt28 : am_mtP am_m28 := ⟨am_mi28.2.2.1, by decide +kernel, am_rowBok (fun h => by cases h) am_pk28⟩
theorem am_pk29 : am_P29.all (am_rowB 10 false (some .int) prog_12_method_30_code) = true := by decide +kernel
theorem am_mt29 : am_mtP am_m29 := ⟨am_mi29.2.2.1, by decide +kernel, am_rowBok (fun h => by cases h) am_pk29⟩
theorem am_pk30 : am_P30.all (am_rowB 10 false (some .int) prog_12_method_31_code) = true := by decide +kernel
theorem am_mt30 : am_mtP am_m30 := ⟨am_mi30.2.2.1, by decide +kernel, am_rowBok (fun h => by cases h) am_pk30⟩
theorem am_pk31 : am_P31.all (am_rowB 10 false (some .int) prog_12_method_32_code) = true := by decide +kernel
theorem am_mt31 : am_mtP am_m31 := ⟨am_mi31.2.2.1, by decide +kernel, am_rowBok (fun h => by cases h) am_pk31⟩
theorem am_pk32 : am_P32.all (am_rowB 10 false (some .int) prog_12_method_33_code) = true := by decide +kernel
theorem am_mt32 : am_mtP am_m32 := ⟨am_mi32.2.2.1, by decide +kernel, am_rowBok (fun h => by cases h) am_pk32⟩
theorem am_pk33 : am_P33.all (am_rowB 10 false (some .int) prog_12_method_34_code) = true := by decide +kernel
theorem am_mt33 : am_mtP am_m33 := ⟨am_mi33.2.2.1, by decide +kernel, am_rowBok (fun h => by cases h) am_pk33⟩
theorem am_pk34 : am_P34.all (am_rowB 10 false (some .int) prog_12_method_35_code) = true := by decide +kernel
theorem am_mt34 : am_mtP am_m34 := ⟨am_mi34.2.2.1, by decide +kernel, am_rowBok (fun h => by cases h) am_pk34⟩
theorem am_pk35 : am_P35.all (am_rowB 10 false (some .boolean) prog_12_method_36_code) = true := by decide +kernel
theorem am_mt35 : am_mtP am_m35 := ⟨am_mi35.2.2.1, by decide +kernel, am_rowBok (fun h => by cases h) am_pk35⟩
theorem am_pk36 : am_P36.all (am_rowB 10 false (some .int) prog_12_method_37_code) = true := by decide +kernel
theorem am_mt36 : am_mtP am_m36 := ⟨am_mi36.2.2.1, by decide +kernel, am_rowBok (fun h => by cases h) am_pk36⟩
theorem am_pk37 : am_P37.all (am_rowB 10 false (some .int) prog_12_method_38_code) = true := by decide +kernel
theorem am_mt37 : am_mtP am_m37 := ⟨am_mi37.2.2.1, by decide +kernel, am_rowBok (fun h => by cases h) am_pk37⟩
theorem am_pk38 : am_P38.all (am_rowB 10 false (some .int) prog_12_method_39_code) = true := by decide +kernel
theorem am_mt38 : am_mtP am_m38 := ⟨am_mi38.2.2.1, by decide +kernel, am_rowBok (fun h => by cases h) am_pk38⟩
theorem am_pk39 : am_P39.all (am_rowB 10 false (some .int) prog_12_method_40_code) = true := by decide +kernel
theorem am_mt39 : am_mtP am_m39 := ⟨am_mi39.2.2.1, by decide +kernel, am_rowBok (fun h => by cases h) am_pk39⟩
theorem am_pk40 : am_P40.all (am_rowB 10 false (some .int) prog_12_method_41_code) = true := by decide +kernel
theorem am_mt40 : am_mtP am_m40 := ⟨am_mi40.2.2.1, by decide +kernel, am_rowBok (fun h => by cases h) am_pk40⟩
theorem am_pk41 : am_P41.all (am_rowB 10 false (some .boolean) prog_12_method_42_code) = true := by decide +kernel
theorem am_mt41 : am_mtP am_m41 := ⟨am_mi41.2.2.1, by decide +kernel, am_rowBok (fun h => by cases h) am_pk41⟩
theorem am_pk42 : am_P42.all (am_rowB 10 false (some .boolean) prog_12_method_43_code) = true := by decide +kernel
theorem am_mt42 : am_mtP am_m42 := ⟨am_mi42.2.2.1, by decide +kernel, am_rowBok (fun h => by cases h) am_pk42⟩
theorem am_pk43 : am_P43.all (am_rowB 10 false (some .int) prog_12_method_44_code) = true := by decide +kernel
theorem am_mt43 : am_mtP am_m43 := ⟨am_mi43.2.2.1, by decide +kernel, am_rowBok (fun h => by cases h) am_pk43⟩
theorem am_pk44 : am_P44.all (am_rowB 10 false (some .int) prog_12_method_45_code) = true := by decide +kernel
theorem am_mt44 : am_mtP am_m44 := ⟨am_mi44.2.2.1, by decide +kernel, am_rowBok (fun h => by cases h) am_pk44⟩
theorem am_pk45 : am_P45.all (am_rowB 10 false (some .int) prog_12_method_46_code) = true := by decide +kernel
theorem am_mt45 : am_mtP am_m45 := ⟨am_mi45.2.2.1, by decide +kernel, am_rowBok (fun h => by cases h) am_pk45⟩
theorem am_pk46 : am_P46.all (am_rowB 10 false (some .int) prog_12_method_47_code) = true := by decide +kernel
theorem am_mt46 : am_mtP am_m46 := ⟨am_mi46.2.2.1, by decide +kernel, am_rowBok (fun h => by cases h) am_pk46⟩
theorem am_pk47 : am_P47.all (am_rowB 10 false (some .int) prog_12_method_48_code) = true := by decide +kernel
theorem am_mt47 : am_mtP am_m47 := ⟨am_mi47.2.2.1, by decide +kernel, am_rowBok (fun h => by cases h) am_pk47⟩
theorem am_pk48 : am_P48.all (am_rowB 10 false (some .int) prog_12_method_49_code) = true := by decide +kernel
theorem am_mt48 : am_mtP am_m48 := ⟨am_mi48.2.2.1, by decide +kernel, am_rowBok (fun h => by cases h) am_pk48⟩
theorem am_pk49 : am_P49.all (am_rowB 10 false (some .int) prog_12_method_50_code) = true := by decide +kernel
theorem am_mt49 : am_mtP am_m49 := ⟨am_mi49.2.2.1, by decide +kernel, am_rowBok (fun h => by cases h) am_pk49⟩
theorem am_pk50 : am_P50.all (am_rowB 10 false (some .boolean) prog_12_method_51_code) = true := by decide +kernel
theorem am_mt50 : am_mtP am_m50 := ⟨am_mi50.2.2.1, by decide +kernel, am_rowBok (fun h => by cases h) am_pk50⟩
theorem am_pk51 : am_P51.all (am_rowB 10 false (some .boolean) prog_12_method_52_code) = true := by decide +kernel
theorem am_mt51 : am_mtP am_m51 := ⟨am_mi51.2.2.1, by decide +kernel, am_rowBok (fun h => by cases h) am_pk51⟩
theorem am_pk52 : am_P52.all (am_rowB 10 false (some .boolean) prog_12_method_53_code) = true := by decide +kernel
theorem am_mt52 : am_mtP am_m52 := ⟨am_mi52.2.2.1, by decide +kernel, am_rowBok (fun h => by cases h) am_pk52⟩
theorem am_pk53 : am_P53.all (am_rowB 10 false (some .int) prog_12_method_54_code) = true := by decide +kernel
theorem am_mt53 : am_mtP am_m53 := ⟨am_mi53.2.2.1, by decide +kernel, am_rowBok (fun h => by cases h) am_pk53⟩
theorem am_pk54 : am_P54.all (am_rowB 10 false (some .int) prog_12_method_55_code) = true := by decide +kernel
theorem am_mt54 : am_mtP am_m54 := ⟨am_mi54.2.2.1, by decide +kernel, am_rowBok (fun h => by cases h) am_pk54⟩
theorem am_pk55 : am_P55.all (am_rowB 10 false (some .int) prog_12_method_56_code) = true := by decide +kernel
theorem am_mt55 : am_mtP am_m55 := ⟨am_mi55.2.2.1, by decide +kernel, am_rowBok (fun h => by cases h) am_pk55⟩
theorem am_pk56 : am_P56.all (am_rowB 10 false (some .int) prog_12_method_57_code) = true := by decide +kernel
theorem am_mt56 : am_mtP am_m56 := ⟨am_mi56.2.2.1, by decide +kernel, am_rowBok (fun h => by cases h) am_pk56⟩
theorem am_pk57 : am_P57.all (am_rowB 10 false (some .int) prog_12_method_58_code) = true := by decide +kernel
theorem am_mt57 : am_mtP am_m57 := ⟨am_mi57.2.2.1, by decide +kernel, am_rowBok (fun h => by cases h) am_pk57⟩
theorem am_pk58 : am_P58.all (am_rowB 10 false (some .int) prog_12_method_59_code) = true := by decide +kernel
theorem am_mt58 : am_mtP am_m58 := ⟨am_mi58.2.2.1, by decide +kernel, am_rowBok (fun h => by cases h) am_pk58⟩
theorem am_pk59 : am_P59.all (am_rowB 10 false (some .int) prog_12_method_60_code) = true := by decide +kernel
theorem am_mt59 : am_mtP am_m59 := ⟨am_mi59.2.2.1, by decide +kernel, am_rowBok (fun h => by cases h) am_pk59⟩
theorem am_pk60 : am_P60.all (am_rowB 10 false none prog_12_method_61_code) = true := by decide +kernel
theorem am_mt60 : am_mtP am_m60 := ⟨am_mi60.2.2.1, by decide +kernel, am_rowBok (fun h => by cases h) am_pk60⟩
theorem am_pk61 : am_P61.all (am_rowB 10 false (some .boolean) prog_12_method_62_code) = true := by decide +kernel
theorem am_mt61 : am_mtP am_m61 := ⟨am_mi61.2.2.1, by decide +kernel, am_rowBok (fun h => by cases h) am_pk61⟩
theorem am_pk62 : am_P62.all (am_rowB 10 false none prog_12_method_63_code) = true := by decide +kernel
theorem am_mt62 : am_mtP am_m62 := ⟨am_mi62.2.2.1, by decide +kernel, am_rowBok (fun h => by cases h) am_pk62⟩
theorem am_pk63 : am_P63.all (am_rowB 10 false (some .int) prog_12_method_64_code) = true := by decide +kernel
theorem am_mt63 : am_mtP am_m63 := ⟨am_mi63.2.2.1, by decide +kernel, am_rowBok (fun h => by cases h) am_pk63⟩
theorem am_pk64 : am_P64.all (am_rowB 10 false (some .int) prog_12_method_65_code) = true := by decide +kernel
theorem am_mt64 : am_mtP am_m64 := ⟨am_mi64.2.2.1, by decide +kernel, am_rowBok (fun h => by cases h) am_pk64⟩
theorem am_pk65 : am_P65.all (am_rowB 10 false (some .int) prog_12_method_66_code) = true := by decide +kernel
theorem am_mt65 : am_mtP am_m65 := ⟨am_mi65.2.2.1, by decide +kernel, am_rowBok (fun h => by cases h) am_pk65⟩
theorem am_pk66 : am_P66.all (am_rowB 10 false (some .boolean) prog_12_method_67_code) = true := by decide +kernel
theorem am_mt66 : am_mtP am_m66 := ⟨am_mi66.2.2.1, by decide +kernel, am_rowBok (fun h => by cases h) am_pk66⟩
theorem am_pk67 : am_P67.all (am_rowB 10 false none prog_12_method_68_code) = true := by decide +kernel
theorem am_mt67 : am_mtP am_m67 := ⟨am_mi67.2.2.1, by decide +kernel, am_rowBok (fun h => by cases h) am_pk67⟩
theorem am_pk68 : am_P68.all (am_rowB 10 false none prog_12_method_69_code) = true := by decide +kernel
theorem am_mt68 : am_mtP am_m68 := ⟨am_mi68.2.2.1, by decide +kernel, am_rowBok (fun h => by cases h) am_pk68⟩
theorem am_pk69 : am_P69.all (am_rowB 10 false (some .int) prog_12_method_70_code) = true := by decide +kernel
theorem am_mt69 : am_mtP am_m69 := ⟨am_mi69.2.2.1, by decide +kernel, am_rowBok (fun h => by cases h) am_pk69⟩
theorem am_pk70 : am_P70.all (am_rowB 10 false (some .int) prog_12_method_71_code) = true := by decide +kernel
theorem am_mt70 : am_mtP am_m70 := ⟨am_mi70.2.2.1, by decide +kernel, am_rowBok (fun h => by cases h) am_pk70⟩
theorem am_pk71 : am_P71.all (am_rowB 10 false (some .int) prog_12_method_72_code) = true := by decide +kernel
theorem am_mt71 : am_mtP am_m71 := ⟨am_mi71.2.2.1, by decide +kernel, am_rowBok (fun h => by cases h) am_pk71⟩
theorem am_pk72 : am_P72.all (am_rowB 10 false (some .int) prog_12_method_73_code) = true := by decide +kernel
theorem am_mt72 : am_mtP am_m72 := ⟨am_mi72.2.2.1, by decide +kernel, am_rowBok (fun h => by cases h) am_pk72⟩
theorem am_pk73 : am_P73.all (am_rowB 10 false (some .int) prog_12_method_74_code) = true := by decide +kernel
theorem am_mt73 : am_mtP am_m73 := ⟨am_mi73.2.2.1, by decide +kernel, am_rowBok (fun h => by cases h) am_pk73⟩
theorem am_pk74 : am_P74.all (am_rowB 10 false (some .int) prog_12_method_75_code) = true := by decide +kernel
theorem am_mt74 : am_mtP am_m74 := ⟨am_mi74.2.2.1, by decide +kernel, am_rowBok (fun h => by cases h) am_pk74⟩
theorem am_pk75 : am_P75.all (am_rowB 10 false (some .int) prog_12_method_76_code) = true := by decide +kernel
theorem am_mt75 : am_mtP am_m75 := ⟨am_mi75.2.2.1, by decide +kernel, am_rowBok (fun h => by cases h) am_pk75⟩
theorem am_pk76 : am_P76.all (am_rowB 10 false (some .int) prog_12_method_77_code) = true := by decide +kernel
theorem am_mt76 : am_mtP am_m76 := ⟨am_mi76.2.2.1, by decide +kernel, am_rowBok (fun h => by cases h) am_pk76⟩
theorem am_pk77 : am_P77.all (am_rowB 10 false (some .int) prog_12_method_78_code) = true := by decide +kernel
theorem am_mt77 : am_mtP am_m77 := ⟨am_mi77.2.2.1, by decide +kernel, am_rowBok (fun h => by cases h) am_pk77⟩
theorem am_pk78 : am_P78.all (am_rowB 10 false (some .int) prog_12_method_79_code) = true := by decide +kernel
theorem am_mt78 : am_mtP am_m78 := ⟨am_mi78.2.2.1, by decide +kernel, am_rowBok (fun h => by cases h) am_pk78⟩
theorem am_pk79 : am_P79.all (am_rowB 10 false (some .boolean) prog_12_method_80_code) = true := by decide +kernel
theorem am_mt79 : am_mtP am_m79 := ⟨am_mi79.2.2.1, by decide +kernel, am_rowBok (fun h => by cases h) am_pk79⟩
theorem am_pk80 : am_P80.all (am_rowB 10 false (some .int) prog_12_method_81_code) = true := by decide +kernel
theorem am_mt80 : am_mtP am_m80 := ⟨am_mi80.2.2.1, by decide +kernel, am_rowBok (fun h => by cases h) am_pk80⟩
theorem am_pk81 : am_P81.all (am_rowB 10 false (some .int) prog_12_method_82_code) = true := by decide +kernel
theorem am_mt81 : am_mtP am_m81 := ⟨am_mi81.2.2.1, by decide +kernel, am_rowBok (fun h => by cases h) am_pk81⟩
theorem am_pk82 : am_P82.all (am_rowB 10 false (some .int) prog_12_method_83_code) = true := by decide +kernel
theorem am_mt82 : am_mtP am_m82 := ⟨am_mi82.2.2.1, by decide +kernel, am_rowBok (fun h => by cases h) am_pk82⟩
theorem am_pk83 : am_P83.all (am_rowB 10 false (some .long) prog_12_method_84_code) = true := by decide +kernel
theorem am_mt83 : am_mtP am_m83 := ⟨am_mi83.2.2.1, by decide +kernel, am_rowBok (fun h => by cases h) am_pk83⟩
theorem am_pk84 : am_P84.all (am_rowB 10 false (some .long) prog_12_method_85_code) = true := by decide +kernel
theorem am_mt84 : am_mtP am_m84 := ⟨am_mi84.2.2.1, by decide +kernel, am_rowBok (fun h => by cases h) am_pk84⟩
theorem am_pk85 : am_P85.all (am_rowB 10 false (some .long) prog_12_method_86_code) = true := by decide +kernel
theorem am_mt85 : am_mtP am_m85 := ⟨am_mi85.2.2.1, by decide +kernel, am_rowBok (fun h => by cases h) am_pk85⟩
theorem am_pk86 : am_P86.all (am_rowB 10 false (some .int) prog_12_method_87_code) = true := by decide +kernel
theorem am_mt86 : am_mtP am_m86 := ⟨am_mi86.2.2.1, by decide +kernel, am_rowBok (fun h => by cases h) am_pk86⟩
theorem am_pk87 : am_P87.all (am_rowB 10 false (some .int) prog_12_method_88_code) = true := by decide +kernel
theorem am_mt87 : am_mtP am_m87 := ⟨am_mi87.2.2.1, by decide +kernel, am_rowBok (fun h => by cases h) am_pk87⟩
theorem am_pk88 : am_P88.all (am_rowB 10 false (some .int) prog_12_method_89_code) = true := by decide +kernel
theorem am_mt88 : am_mtP am_m88 := ⟨am_mi88.2.2.1, by decide +kernel, am_rowBok (fun h => by cases h) am_pk88⟩
theorem am_pk89 : am_P89.all (am_rowB 10 false (some .int) prog_12_method_90_code) = true := by decide +kernel
theorem am_mt89 : am_mtP am_m89 := ⟨am_mi89.2.2.1, by decide +kernel, am_rowBok (fun h => by cases h) am_pk89⟩
theorem am_pk90 : am_P90.all (am_rowB 10 false (some .int) prog_12_method_91_code) = true := by decide +kernel
theorem am_mt90 : am_mtP am_m90 := ⟨am_mi90.2.2.1, by decide +kernel, am_rowBok (fun h => by cases h) am_pk90⟩
theorem am_pk91 : am_P91.all (am_rowB 10 false (some .int) prog_12_method_92_code) = true := by decide +kernel
theorem am_mt91 : am_mtP am_m91 := ⟨am_mi91.2.2.1, by decide +kernel, am_rowBok (fun h => by cases h) am_pk91⟩
theorem am_pk92 : am_P92.all (am_rowB 10 false (some .int) prog_12_method_93_code) = true := by decide +kernel
theorem am_mt92 : am_mtP am_m92 := ⟨am_mi92.2.2.1, by decide +kernel, am_rowBok (fun h => by cases h) am_pk92⟩
theorem am_pk93 : am_P93.all (am_rowB 10 false none prog_12_method_94_code) = true := by decide +kernel
theorem am_mt93 : am_mtP am_m93 := ⟨am_mi93.2.2.1, by decide +kernel, am_rowBok (fun h => by cases h) am_pk93⟩
theorem am_pk94 : am_P94.all (am_rowB 10 false (some .int) prog_12_method_95_code) = true := by decide +kernel
theorem am_mt94 : am_mtP am_m94 := ⟨am_mi94.2.2.1, by decide +kernel, am_rowBok (fun h => by cases h) am_pk94⟩
theorem am_pk95 : am_P95.all (am_rowB 10 false (some .int) prog_12_method_96_code) = true := by decide +kernel
theorem am_mt95 : am_mtP am_m95 := ⟨am_mi95.2.2.1, by decide +kernel, am_rowBok (fun h => by cases h) am_pk95⟩
theorem am_pk96 : am_P96.all (am_rowB 10 false (some .int) prog_12_method_97_code) = true := by decide +kernel
theorem am_mt96 : am_mtP am_m96 := ⟨am_mi96.2.2.1, by decide +kernel, am_rowBok (fun h => by cases h) am_pk96⟩
theorem am_pk97 : am_P97.all (am_rowB 10 false (some .int) prog_12_method_98_code) = true := by decide +kernel
theorem am_mt97 : am_mtP am_m97 := ⟨am_mi97.2.2.1, by decide +kernel, am_rowBok (fun h => by cases h) am_pk97⟩
theorem am_pk98 : am_P98.all (am_rowB 10 false (some .int) prog_12_method_99_code) = true := by decide +kernel
theorem am_mt98 : am_mtP am_m98 := ⟨am_mi98.2.2.1, by decide +kernel, am_rowBok (fun h => by cases h) am_pk98⟩
theorem am_pk99 : am_P99.all (am_rowB 10 false (some .int) prog_12_method_100_code) = true := by decide +kernel
theorem am_mt99 : am_mtP am_m99 := ⟨am_mi99.2.2.1, by decide +kernel, am_rowBok (fun h => by cases h) am_pk99⟩
theorem am_pk100 : am_P100.all (am_rowB 10 false (some .int) prog_12_method_101_code) = true := by decide +kernel
theorem am_mt100 : am_mtP am_m100 := ⟨am_mi100.2.2.1, by decide +kernel, am_rowBok (fun h => by cases h) am_pk100⟩
theorem am_pk101 : am_P101.all (am_rowB 10 false (some .int) prog_12_method_102_code) = true := by decide +kernel
theorem am_mt101 : am_mtP am_m101 := ⟨am_mi101.2.2.1, by decide +kernel, am_rowBok (fun h => by cases h) am_pk101⟩
theorem am_pk102 : am_P102.all (am_rowB 10 false (some .int) prog_12_method_103_code) = true := by decide +kernel
theorem am_mt102 : am_mtP am_m102 := ⟨am_mi102.2.2.1, by decide +kernel, am_rowBok (fun h => by cases h) am_pk102⟩
theorem am_pk103 : am_P103.all (am_rowB 10 false (some .int) prog_12_method_104_code) = true := by decide +kernel
theorem am_mt103 : am_mtP am_m103 := ⟨am_mi103.2.2.1, by decide +kernel, am_rowBok (fun h => by cases h) am_pk103⟩
theorem am_pk104 : am_P104.all (am_rowB 10 false (some .int) prog_12_method_105_code) = true := by decide +kernel
theorem am_mt104 : am_mtP am_m104 := ⟨am_mi104.2.2.1, by decide +kernel, am_rowBok (fun h => by cases h) am_pk104⟩
theorem am_pk105 : am_P105.all (am_rowB 10 false (some .boolean) prog_12_method_106_code) = true := by decide +kernel
theorem am_mt105 : am_mtP am_m105 := ⟨am_mi105.2.2.1, by decide +kernel, am_rowBok (fun h => by cases h) am_pk105⟩
theorem am_pk106 : am_P106.all (am_rowB 10 false (some .int) prog_12_method_107_code) = true := by decide +kernel
theorem am_mt106 : am_mtP am_m106 := ⟨am_mi106.2.2.1, by decide +kernel, am_rowBok (fun h => by cases h) am_pk106⟩
theorem am_pk107 : am_P107.all (am_rowB 10 false (some .long) prog_12_method_108_code) = true := by decide +kernel
theorem am_mt107 : am_mtP am_m107 := ⟨am_mi107.2.2.1, by decide +kernel, am_rowBok (fun h => by cases h) am_pk107⟩
theorem am_pk108 : am_P108.all (am_rowB 10 false (some .int) prog_12_method_109_code) = true := by decide +kernel
theorem am_mt108 : am_mtP am_m108 := ⟨am_mi108.2.2.1, by decide +kernel, am_rowBok (fun h => by cases h) am_pk108⟩
theorem am_pk109 : am_P109.all (am_rowB 10 false (some .long) prog_12_method_110_code) = true := by decide +kernel
theorem am_mt109 : am_mtP am_m109 := ⟨am_mi109.2.2.1, by decide +kernel, am_rowBok (fun h => by cases h) am_pk109⟩
theorem am_pk110 : am_P110.all (am_rowB 10 false (some .int) prog_12_method_111_code) = true := by decide +kernel
theorem am_mt110 : am_mtP am_m110 := ⟨am_mi110.2.2.1, by decide +kernel, am_rowBok (fun h => by cases h) am_pk110⟩
theorem am_pk111 : am_P111.all (am_rowB 11 false (some .int) prog_14_method_49_code) = true := by decide +kernel
theorem am_mt111 : am_mtP am_m111 := ⟨am_mi111.2.2.1, by decide +kernel, am_rowBok (fun h => by cases h) am_pk111⟩
theorem am_pk112 : am_P112.all (am_rowB 12 false (some .int) prog_15_method_50_code) = true := by decide +kernel
theorem am_mt112 : am_mtP am_m112 := ⟨am_mi112.2.2.1, by decide +kernel, am_rowBok (fun h => by cases h) am_pk112⟩
theorem am_pk113 : am_P113.all (am_rowB 13 false (some .int) prog_17_method_54_code) = true := by decide +kernel
theorem am_mt113 : am_mtP am_m113 := ⟨am_mi113.2.2.1, by decide +kernel, am_rowBok (fun h => by cases h) am_pk113⟩
theorem am_pk114 : am_P114.all (am_rowB 13 false (some .boolean) prog_17_method_55_code) = true := by decide +kernel
theorem am_mt114 : am_mtP am_m114 := ⟨am_mi114.2.2.1, by decide +kernel, am_rowBok (fun h => by cases h) am_pk114⟩
theorem am_pk115 : am_P115.all (am_rowB 13 false (some .char) prog_17_method_56_code) = true := by decide +kernel
theorem am_mt115 : am_mtP am_m115 := ⟨am_mi115.2.2.1, by decide +kernel, am_rowBok (fun h => by cases h) am_pk115⟩
theorem am_pk116 : am_P116.all (am_rowB 13 false (some .int) prog_17_method_79_code) = true := by decide +kernel
theorem am_mt116 : am_mtP am_m116 := ⟨am_mi116.2.2.1, by decide +kernel, am_rowBok (fun h => by cases h) am_pk116⟩
theorem am_pk117 : am_P117.all (am_rowB 13 false (some .int) prog_17_method_80_code) = true := by decide +kernel
theorem am_mt117 : am_mtP am_m117 := ⟨am_mi117.2.2.1, by decide +kernel, am_rowBok (fun h => by cases h) am_pk117⟩
theorem am_pk118 : am_P118.all (am_rowB 13 false (some .byte) prog_17_method_152_code) = true := by decide +kernel
theorem am_mt118 : am_mtP am_m118 := ⟨am_mi118.2.2.1, by decide +kernel, am_rowBok (fun h => by cases h) am_pk118⟩
theorem am_pk119 : am_P119.all (am_rowB 13 false (some .boolean) prog_17_method_154_code) = true := by decide +kernel
theorem am_mt119 : am_mtP am_m119 := ⟨am_mi119.2.2.1, by decide +kernel, am_rowBok (fun h => by cases h) am_pk119⟩
theorem am_pk120 : am_P120.all (am_rowB 13 false none prog_17_method_155_code) = true := by decide +kernel
theorem am_mt120 : am_mtP am_m120 := ⟨am_mi120.2.2.1, by decide +kernel, am_rowBok (fun h => by cases h) am_pk120⟩
theorem am_pk121 : am_P121.all (am_rowB 14 false (some .char) prog_18_method_2_code) = true := by decide +kernel
theorem am_mt121 : am_mtP am_m121 := ⟨am_mi121.2.2.1, by decide +kernel, am_rowBok (fun h => by cases h) am_pk121⟩
theorem am_pk122 : am_P122.all (am_rowB 14 false (some .boolean) prog_18_method_4_code) = true := by decide +kernel
theorem am_mt122 : am_mtP am_m122 := ⟨am_mi122.2.2.1, by decide +kernel, am_rowBok (fun h => by cases h) am_pk122⟩
theorem am_pk123 : am_P123.all (am_rowB 14 false (some .int) prog_18_method_22_code) = true := by decide +kernel
theorem am_mt123 : am_mtP am_m123 := ⟨am_mi123.2.2.1, by decide +kernel, am_rowBok (fun h => by cases h) am_pk123⟩
theorem am_pk124 : am_P124.all (am_rowB 14 false (some .int) prog_18_method_23_code) = true := by decide +kernel
theorem am_mt124 : am_mtP am_m124 := ⟨am_mi124.2.2.1, by decide +kernel, am_rowBok (fun h => by cases h) am_pk124⟩
theorem am_pk125 : am_P125.all (am_rowB 15 false (some .int) prog_21_method_11_code) = true := by decide +kernel
theorem am_mt125 : am_mtP am_m125 := ⟨am_mi125.2.2.1, by decide +kernel, am_rowBok (fun h => by cases h) am_pk125⟩
theorem am_pk126 : am_P126.all (am_rowB 0 true none prog_2_method_1_code) = true := by decide +kernel
theorem am_mt126 : am_mtP am_m126 := ⟨am_mi126.2.2.1, by decide +kernel, am_rowBok (fun _ => rfl) am_pk126⟩
theorem am_pk127 : am_P127.all (am_rowB 0 false (some .int) prog_2_method_2_code) = true := by decide +kernel
theorem am_mt127 : am_mtP am_m127 := ⟨am_mi127.2.2.1, by decide +kernel, am_rowBok (fun h => by cases h) am_pk127⟩
theorem am_pk128 : am_P128.all (am_rowB 0 false (some .int) prog_2_method_3_code) = true := by decide +kernel
theorem am_mt128 : am_mtP am_m128 := ⟨am_mi128.2.2.1, by decide +kernel, am_rowBok (fun h => by cases h) am_pk128⟩
theorem am_pk129 : am_P129.all (am_rowB 0 false none prog_2_method_4_code) = true := by decide +kernel
theorem am_mt129 : am_mtP am_m129 := ⟨am_mi129.2.2.1, by decide +kernel, am_rowBok (fun h => by cases h) am_pk129⟩
theorem am_pk130 : am_P130.all (am_rowB 1 true none prog_3_method_1_code) = true := by decide +kernel
theorem am_mt130 : am_mtP am_m130 := ⟨am_mi130.2.2.1, by decide +kernel, am_rowBok (fun _ => rfl) am_pk130⟩
theorem am_pk131 : am_P131.all (am_rowB 1 false none prog_3_method_2_code) = true := by decide +kernel
theorem am_mt131 : am_mtP am_m131 := ⟨am_mi131.2.2.1, by decide +kernel, am_rowBok (fun h => by cases h) am_pk131⟩
theorem am_pk132 : am_P132.all (am_rowB 1 false none prog_3_method_3_code) = true := by decide +kernel
theorem am_mt132 : am_mtP am_m132 := ⟨am_mi132.2.2.1, by decide +kernel, am_rowBok (fun h => by cases h) am_pk132⟩
theorem am_pk133 : am_P133.all (am_rowB 1 false (some .int) prog_3_method_4_code) = true := by decide +kernel
theorem am_mt133 : am_mtP am_m133 := ⟨am_mi133.2.2.1, by decide +kernel, am_rowBok (fun h => by cases h) am_pk133⟩
theorem am_pk134 : am_P134.all (am_rowB 1 false (some .int) prog_3_method_5_code) = true := by decide +kernel
theorem am_mt134 : am_mtP am_m134 := ⟨am_mi134.2.2.1, by decide +kernel, am_rowBok (fun h => by cases h) am_pk134⟩
theorem am_pk135 : am_P135.all (am_rowB 1 false (some .int) prog_3_method_6_code) = true := by decide +kernel
theorem am_mt135 : am_mtP am_m135 := ⟨am_mi135.2.2.1, by decide +kernel, am_rowBok (fun h => by cases h) am_pk135⟩
theorem am_pk136 : am_P136.all (am_rowB 2 true none prog_4_method_1_code) = true := by decide +kernel
theorem am_mt136 : am_mtP am_m136 := ⟨am_mi136.2.2.1, by decide +kernel, am_rowBok (fun _ => rfl) am_pk136⟩
theorem am_pk137 : am_P137.all (am_rowB 2 false none prog_4_method_2_code) = true := by decide +kernel
theorem am_mt137 : am_mtP am_m137 := ⟨am_mi137.2.2.1, by decide +kernel, am_rowBok (fun h => by cases h) am_pk137⟩
theorem am_pk138 : am_P138.all (am_rowB 2 false (some .boolean) prog_4_method_3_code) = true := by decide +kernel
theorem am_mt138 : am_mtP am_m138 := ⟨am_mi138.2.2.1, by decide +kernel, am_rowBok (fun h => by cases h) am_pk138⟩
theorem am_pk139 : am_P139.all (am_rowB 2 false (some .boolean) prog_4_method_4_code) = true := by decide +kernel
theorem am_mt139 : am_mtP am_m139 := ⟨am_mi139.2.2.1, by decide +kernel, am_rowBok (fun h => by cases h) am_pk139⟩
theorem am_pk140 : am_P140.all (am_rowB 2 false (some .int) prog_4_method_5_code) = true := by decide +kernel
theorem am_mt140 : am_mtP am_m140 := ⟨am_mi140.2.2.1, by decide +kernel, am_rowBok (fun h => by cases h) am_pk140⟩
theorem am_pk141 : am_P141.all (am_rowB 2 false none prog_4_method_6_code) = true := by decide +kernel
theorem am_mt141 : am_mtP am_m141 := ⟨am_mi141.2.2.1, by decide +kernel, am_rowBok (fun h => by cases h) am_pk141⟩
theorem am_pk142 : am_P142.all (am_rowB 2 false (some .long) prog_4_method_7_code) = true := by decide +kernel
theorem am_mt142 : am_mtP am_m142 := ⟨am_mi142.2.2.1, by decide +kernel, am_rowBok (fun h => by cases h) am_pk142⟩
theorem am_pk143 : am_P143.all (am_rowB 2 false (some .long) prog_4_method_8_code) = true := by decide +kernel
theorem am_mt143 : am_mtP am_m143 := ⟨am_mi143.2.2.1, by decide +kernel, am_rowBok (fun h => by cases h) am_pk143⟩
theorem am_pk144 : am_P144.all (am_rowB 2 false (some .long) prog_4_method_9_code) = true := by decide +kernel
theorem am_mt144 : am_mtP am_m144 := ⟨am_mi144.2.2.1, by decide +kernel, am_rowBok (fun h => by cases h) am_pk144⟩
theorem am_pk145 : am_P145.all (am_rowB 2 false (some .long) prog_4_method_10_code) = true := by decide +kernel
theorem am_mt145 : am_mtP am_m145 := ⟨am_mi145.2.2.1, by decide +kernel, am_rowBok (fun h => by cases h) am_pk145⟩
theorem am_pk146 : am_P146.all (am_rowB 2 false (some .boolean) prog_4_method_11_code) = true := by decide +kernel
theorem am_mt146 : am_mtP am_m146 := ⟨am_mi146.2.2.1, by decide +kernel, am_rowBok (fun h => by cases h) am_pk146⟩
theorem am_pk147 : am_P147.all (am_rowB 2 false (some .long) prog_4_method_12_code) = true := by decide +kernel
theorem am_mt147 : am_mtP am_m147 := ⟨am_mi147.2.2.1, by decide +kernel, am_rowBok (fun h => by cases h) am_pk147⟩
theorem am_pk148 : am_P148.all (am_rowB 2 false (some .long) prog_4_method_13_code) = true := by decide +kernel
theorem am_mt148 : am_mtP am_m148 := ⟨am_mi148.2.2.1, by decide +kernel, am_rowBok (fun h => by cases h) am_pk148⟩
theorem am_pk149 : am_P149.all (am_rowB 2 false (some .int) prog_4_method_14_code) = true := by decide +kernel
theorem am_mt149 : am_mtP am_m149 := ⟨am_mi149.2.2.1, by decide +kernel, am_rowBok (fun h => by cases h) am_pk149⟩
theorem am_pk150 : am_P150.all (am_rowB 2 false (some .int) prog_4_method_15_code) = true := by decide +kernel
theorem am_mt150 : am_mtP am_m150 := ⟨am_mi150.2.2.1, by decide +kernel, am_rowBok (fun h => by cases h) am_pk150⟩
theorem am_pk151 : am_P151.all (am_rowB 2 false (some .int) prog_4_method_16_code) = true := by decide +kernel
theorem am_mt151 : am_mtP am_m151 := ⟨am_mi151.2.2.1, by decide +kernel, am_rowBok (fun h => by cases h) am_pk151⟩
theorem am_pk152 : am_P152.all (am_rowB 2 false (some .int) prog_4_method_17_code) = true := by decide +kernel
theorem am_mt152 : am_mtP am_m152 := ⟨am_mi152.2.2.1, by decide +kernel, am_rowBok (fun h => by cases h) am_pk152⟩
theorem am_pk153 : am_P153.all (am_rowB 2 false (some .int) prog_4_method_18_code) = true := by decide +kernel
theorem am_mt153 : am_mtP am_m153 := ⟨am_mi153.2.2.1, by decide +kernel, am_rowBok (fun h => by cases h) am_pk153⟩
theorem am_pk154 : am_P154.all (am_rowB 2 false (some .int) prog_4_method_19_code) = true := by decide +kernel
theorem am_mt154 : am_mtP am_m154 := ⟨am_mi154.2.2.1, by decide +kernel, am_rowBok (fun h => by cases h) am_pk154⟩
theorem am_pk155 : am_P155.all (am_rowB 2 false (some .int) prog_4_method_20_code) = true := by decide +kernel
theorem am_mt155 : am_mtP am_m155 := ⟨am_mi155.2.2.1, by decide +kernel, am_rowBok (fun h => by cases h) am_pk155⟩
theorem am_pk156 : am_P156.all (am_rowB 2 false (some .boolean) prog_4_method_21_code) = true := by decide +kernel
theorem am_mt156 : am_mtP am_m156 := ⟨am_mi156.2.2.1, by decide +kernel, am_rowBok (fun h => by cases h) am_pk156⟩
theorem am_pk157 : am_P157.all (am_rowB 2 false none prog_4_method_22_code) = true := by decide +kernel
theorem am_mt157 : am_mtP am_m157 := ⟨am_mi157.2.2.1, by decide +kernel, am_rowBok (fun h => by cases h) am_pk157⟩
theorem am_pk158 : am_P158.all (am_rowB 3 true none prog_5_method_1_code) = true := by decide +kernel
theorem am_mt158 : am_mtP am_m158 := ⟨am_mi158.2.2.1, by decide +kernel, am_rowBok (fun _ => rfl) am_pk158⟩
theorem am_pk159 : am_P159.all (am_rowB 3 false none prog_5_method_2_code) = true := by decide +kernel
theorem am_mt159 : am_mtP am_m159 := ⟨am_mi159.2.2.1, by decide +kernel, am_rowBok (fun h => by cases h) am_pk159⟩
theorem am_pk160 : am_P160.all (am_rowB 3 false none prog_5_method_3_code) = true := by decide +kernel
theorem am_mt160 : am_mtP am_m160 := ⟨am_mi160.2.2.1, by decide +kernel, am_rowBok (fun h => by cases h) am_pk160⟩
theorem am_pk161 : am_P161.all (am_rowB 3 false none prog_5_method_4_code) = true := by decide +kernel
theorem am_mt161 : am_mtP am_m161 := ⟨am_mi161.2.2.1, by decide +kernel, am_rowBok (fun h => by cases h) am_pk161⟩
theorem am_pk162 : am_P162.all (am_rowB 3 false none prog_5_method_5_code) = true := by decide +kernel
theorem am_mt162 : am_mtP am_m162 := ⟨am_mi162.2.2.1, by decide +kernel, am_rowBok (fun h => by cases h) am_pk162⟩
theorem am_pk163 : am_P163.all (am_rowB 3 false (some .int) prog_5_method_6_code) = true := by decide +kernel
theorem am_mt163 : am_mtP am_m163 := ⟨am_mi163.2.2.1, by decide +kernel, am_rowBok (fun h => by cases h) am_pk163⟩
theorem am_pk164 : am_P164.all (am_rowB 3 false (some .boolean) prog_5_method_7_code) = true := by decide +kernel
theorem am_mt164 : am_mtP am_m164 := ⟨am_mi164.2.2.1, by decide +kernel, am_rowBok (fun h => by cases h) am_pk164⟩
theorem am_pk165 : am_P165.all (am_rowB 3 false (some .boolean) prog_5_method_8_code) = true := by decide +kernel
theorem am_mt165 : am_mtP am_m165 := ⟨am_mi165.2.2.1, by decide +kernel, am_rowBok (fun h => by cases h) am_pk165⟩
theorem am_pk166 : am_P166.all (am_rowB 3 false (some .int) prog_5_method_9_code) = true := by decide +kernel
theorem am_mt166 : am_mtP am_m166 := ⟨am_mi166.2.2.1, by decide +kernel, am_rowBok (fun h => by cases h) am_pk166⟩
theorem am_pk167 : am_P167.all (am_rowB 4 true none prog_6_method_1_code) = true := by decide +kernel
theorem am_mt167 : am_mtP am_m167 := ⟨am_mi167.2.2.1, by decide +kernel, am_rowBok (fun _ => rfl) am_pk167⟩
theorem am_pk168 : am_P168.all (am_rowB 4 false (some .int) prog_6_method_2_code) = true := by decide +kernel
theorem am_mt168 : am_mtP am_m168 := ⟨am_mi168.2.2.1, by decide +kernel, am_rowBok (fun h => by cases h) am_pk168⟩
theorem am_pk169 : am_P169.all (am_rowB 4 false (some .int) prog_6_method_3_code) = true := by decide +kernel
theorem am_mt169 : am_mtP am_m169 := ⟨am_mi169.2.2.1, by decide +kernel, am_rowBok (fun h => by cases h) am_pk169⟩
theorem am_pk170 : am_P170.all (am_rowB 4 false (some .int) prog_6_method_4_code) = true := by decide +kernel
theorem am_mt170 : am_mtP am_m170 := ⟨am_mi170.2.2.1, by decide +kernel, am_rowBok (fun h => by cases h) am_pk170⟩
theorem am_pk171 : am_P171.all (am_rowB 4 false (some .boolean) prog_6_method_5_code) = true := by decide +kernel
theorem am_mt171 : am_mtP am_m171 := ⟨am_mi171.2.2.1, by decide +kernel, am_rowBok (fun h => by cases h) am_pk171⟩
theorem am_pk172 : am_P172.all (am_rowB 4 false none prog_6_method_6_code) = true := by decide +kernel
theorem am_mt172 : am_mtP am_m172 := ⟨am_mi172.2.2.1, by decide +kernel, am_rowBok (fun h => by cases h) am_pk172⟩
theorem am_pk173 : am_P173.all (am_rowB 4 false none prog_6_method_7_code) = true := by decide +kernel
theorem am_mt173 : am_mtP am_m173 := ⟨am_mi173.2.2.1, by decide +kernel, am_rowBok (fun h => by cases h) am_pk173⟩
theorem am_pk174 : am_P174.all (am_rowB 4 false none prog_6_method_8_code) = true := by decide +kernel
theorem am_mt174 : am_mtP am_m174 := ⟨am_mi174.2.2.1, by decide +kernel, am_rowBok (fun h => by cases h) am_pk174⟩
theorem am_pk175 : am_P175.all (am_rowB 4 false (some (.object "java/lang/String")) prog_6_method_9_code) = true := by decide +kernel
theorem am_mt175 : am_mtP am_m175 := ⟨am_mi175.2.2.1, by decide +kernel, am_rowBok (fun h => by cases h) am_pk175⟩
theorem am_pk176 : am_P176.all (am_rowB 4 false none prog_6_method_10_code) = true := by decide +kernel
theorem am_mt176 : am_mtP am_m176 := ⟨am_mi176.2.2.1, by decide +kernel, am_rowBok (fun h => by cases h) am_pk176⟩
theorem am_pk177 : am_P177.all (am_rowB 4 false none prog_6_method_11_code) = true := by decide +kernel
theorem am_mt177 : am_mtP am_m177 := ⟨am_mi177.2.2.1, by decide +kernel, am_rowBok (fun h => by cases h) am_pk177⟩
theorem am_pk178 : am_P178.all (am_rowB 4 false none prog_6_method_12_code) = true := by decide +kernel
theorem am_mt178 : am_mtP am_m178 := ⟨am_mi178.2.2.1, by decide +kernel, am_rowBok (fun h => by cases h) am_pk178⟩
theorem am_pk179 : am_P179.all (am_rowB 4 false (some .int) prog_6_method_13_code) = true := by decide +kernel
theorem am_mt179 : am_mtP am_m179 := ⟨am_mi179.2.2.1, by decide +kernel, am_rowBok (fun h => by cases h) am_pk179⟩
theorem am_pk180 : am_P180.all (am_rowB 4 false (some .int) prog_6_method_14_code) = true := by decide +kernel
theorem am_mt180 : am_mtP am_m180 := ⟨am_mi180.2.2.1, by decide +kernel, am_rowBok (fun h => by cases h) am_pk180⟩
theorem am_pk181 : am_P181.all (am_rowB 5 true none prog_7_method_1_code) = true := by decide +kernel
theorem am_mt181 : am_mtP am_m181 := ⟨am_mi181.2.2.1, by decide +kernel, am_rowBok (fun _ => rfl) am_pk181⟩
theorem am_pk182 : am_P182.all (am_rowB 5 false (some .boolean) prog_7_method_2_code) = true := by decide +kernel
theorem am_mt182 : am_mtP am_m182 := ⟨am_mi182.2.2.1, by decide +kernel, am_rowBok (fun h => by cases h) am_pk182⟩
theorem am_pk183 : am_P183.all (am_rowB 5 false none prog_7_method_3_code) = true := by decide +kernel
theorem am_mt183 : am_mtP am_m183 := ⟨am_mi183.2.2.1, by decide +kernel, am_rowBok (fun h => by cases h) am_pk183⟩
theorem am_pk184 : am_P184.all (am_rowB 6 true none prog_8_method_1_code) = true := by decide +kernel
theorem am_mt184 : am_mtP am_m184 := ⟨am_mi184.2.2.1, by decide +kernel, am_rowBok (fun _ => rfl) am_pk184⟩
theorem am_pk185 : am_P185.all (am_rowB 6 false (some .int) prog_8_method_2_code) = true := by decide +kernel
theorem am_mt185 : am_mtP am_m185 := ⟨am_mi185.2.2.1, by decide +kernel, am_rowBok (fun h => by cases h) am_pk185⟩
theorem am_pk186 : am_P186.all (am_rowB 6 false (some .int) prog_8_method_3_code) = true := by decide +kernel
theorem am_mt186 : am_mtP am_m186 := ⟨am_mi186.2.2.1, by decide +kernel, am_rowBok (fun h => by cases h) am_pk186⟩
theorem am_pk187 : am_P187.all (am_rowB 6 false none prog_8_method_4_code) = true := by decide +kernel
theorem am_mt187 : am_mtP am_m187 := ⟨am_mi187.2.2.1, by decide +kernel, am_rowBok (fun h => by cases h) am_pk187⟩
theorem am_pk188 : am_P188.all (am_rowB 7 true none prog_9_method_1_code) = true := by decide +kernel
theorem am_mt188 : am_mtP am_m188 := ⟨am_mi188.2.2.1, by decide +kernel, am_rowBok (fun _ => rfl) am_pk188⟩
theorem am_pk189 : am_P189.all (am_rowB 7 false (some .boolean) prog_9_method_2_code) = true := by decide +kernel
theorem am_mt189 : am_mtP am_m189 := ⟨am_mi189.2.2.1, by decide +kernel, am_rowBok (fun h => by cases h) am_pk189⟩
theorem am_pk190 : am_P190.all (am_rowB 7 false (some .boolean) prog_9_method_3_code) = true := by decide +kernel
theorem am_mt190 : am_mtP am_m190 := ⟨am_mi190.2.2.1, by decide +kernel, am_rowBok (fun h => by cases h) am_pk190⟩
theorem am_pk191 : am_P191.all (am_rowB 7 false (some .boolean) prog_9_method_4_code) = true := by decide +kernel
theorem am_mt191 : am_mtP am_m191 := ⟨am_mi191.2.2.1, by decide +kernel, am_rowBok (fun h => by cases h) am_pk191⟩
theorem am_pk192 : am_P192.all (am_rowB 7 false (some .boolean) prog_9_method_5_code) = true := by decide +kernel
theorem am_mt192 : am_mtP am_m192 := ⟨am_mi192.2.2.1, by decide +kernel, am_rowBok (fun h => by cases h) am_pk192⟩
theorem am_pk193 : am_P193.all (am_rowB 7 false (some .boolean) prog_9_method_6_code) = true := by decide +kernel
theorem am_mt193 : am_mtP am_m193 := ⟨am_mi193.2.2.1, by decide +kernel, am_rowBok (fun h => by cases h) am_pk193⟩
theorem am_pk194 : am_P194.all (am_rowB 7 false (some .int) prog_9_method_7_code) = true := by decide +kernel
theorem am_mt194 : am_mtP am_m194 := ⟨am_mi194.2.2.1, by decide +kernel, am_rowBok (fun h => by cases h) am_pk194⟩
theorem am_pk195 : am_P195.all (am_rowB 7 false (some .int) prog_9_method_8_code) = true := by decide +kernel
theorem am_mt195 : am_mtP am_m195 := ⟨am_mi195.2.2.1, by decide +kernel, am_rowBok (fun h => by cases h) am_pk195⟩
theorem am_pk196 : am_P196.all (am_rowB 7 false (some .int) prog_9_method_9_code) = true := by decide +kernel
theorem am_mt196 : am_mtP am_m196 := ⟨am_mi196.2.2.1, by decide +kernel, am_rowBok (fun h => by cases h) am_pk196⟩
theorem am_pk197 : am_P197.all (am_rowB 7 false (some .long) prog_9_method_10_code) = true := by decide +kernel
theorem am_mt197 : am_mtP am_m197 := ⟨am_mi197.2.2.1, by decide +kernel, am_rowBok (fun h => by cases h) am_pk197⟩
theorem am_pk198 : am_P198.all (am_rowB 8 true none prog_10_method_1_code) = true := by decide +kernel
theorem am_mt198 : am_mtP am_m198 := ⟨am_mi198.2.2.1, by decide +kernel, am_rowBok (fun _ => rfl) am_pk198⟩
theorem am_pk199 : am_P199.all (am_rowB 8 false (some .int) prog_10_method_2_code) = true := by decide +kernel
theorem am_mt199 : am_mtP am_m199 := ⟨am_mi199.2.2.1, by decide +kernel, am_rowBok (fun h => by cases h) am_pk199⟩
theorem am_pk200 : am_P200.all (am_rowB 8 false none prog_10_method_3_code) = true := by decide +kernel
theorem am_mt200 : am_mtP am_m200 := ⟨am_mi200.2.2.1, by decide +kernel, am_rowBok (fun h => by cases h) am_pk200⟩
theorem am_pk201 : am_P201.all (am_rowB 8 false none prog_10_method_4_code) = true := by decide +kernel
theorem am_mt201 : am_mtP am_m201 := ⟨am_mi201.2.2.1, by decide +kernel, am_rowBok (fun h => by cases h) am_pk201⟩
theorem am_pk202 : am_P202.all (am_rowB 8 false none prog_10_method_5_code) = true := by decide +kernel
theorem am_mt202 : am_mtP am_m202 := ⟨am_mi202.2.2.1, by decide +kernel, am_rowBok (fun h => by cases h) am_pk202⟩
theorem am_pk203 : am_P203.all (am_rowB 9 true none prog_1_method_1_code) = true := by decide +kernel
theorem am_mt203 : am_mtP am_m203 := ⟨am_mi203.2.2.1, by decide +kernel, am_rowBok (fun _ => rfl) am_pk203⟩
theorem am_pk204 : am_P204.all (am_rowB 9 false (some .int) prog_1_method_2_code) = true := by decide +kernel
theorem am_mt204 : am_mtP am_m204 := ⟨am_mi204.2.2.1, by decide +kernel, am_rowBok (fun h => by cases h) am_pk204⟩
theorem am_pk205 : am_P205.all (am_rowB 9 false (some .int) prog_1_method_3_code) = true := by decide +kernel
theorem am_mt205 : am_mtP am_m205 := ⟨am_mi205.2.2.1, by decide +kernel, am_rowBok (fun h => by cases h) am_pk205⟩
theorem am_pk206 : am_P206.all (am_rowB 9 false (some .int) prog_1_method_4_code) = true := by decide +kernel
theorem am_mt206 : am_mtP am_m206 := ⟨am_mi206.2.2.1, by decide +kernel, am_rowBok (fun h => by cases h) am_pk206⟩
theorem am_pk207 : am_P207.all (am_rowB 9 false (some .int) prog_1_method_5_code) = true := by decide +kernel
theorem am_mt207 : am_mtP am_m207 := ⟨am_mi207.2.2.1, by decide +kernel, am_rowBok (fun h => by cases h) am_pk207⟩
theorem am_pk208 : am_P208.all (am_rowB 9 false (some .int) prog_1_method_6_code) = true := by decide +kernel
theorem am_mt208 : am_mtP am_m208 := ⟨am_mi208.2.2.1, by decide +kernel, am_rowBok (fun h => by cases h) am_pk208⟩
theorem am_pk209 : am_P209.all (am_rowB 9 false (some .int) prog_1_method_7_code) = true := by decide +kernel
theorem am_mt209 : am_mtP am_m209 := ⟨am_mi209.2.2.1, by decide +kernel, am_rowBok (fun h => by cases h) am_pk209⟩
theorem am_pk210 : am_P210.all (am_rowB 9 false (some .int) prog_1_method_8_code) = true := by decide +kernel
theorem am_mt210 : am_mtP am_m210 := ⟨am_mi210.2.2.1, by decide +kernel, am_rowBok (fun h => by cases h) am_pk210⟩
theorem am_pk211 : am_P211.all (am_rowB 9 false (some .int) prog_1_method_9_code) = true := by decide +kernel
theorem am_mt211 : am_mtP am_m211 := ⟨am_mi211.2.2.1, by decide +kernel, am_rowBok (fun h => by cases h) am_pk211⟩
theorem am_pk212 : am_P212.all (am_rowB 9 false (some .int) prog_1_method_10_code) = true := by decide +kernel
theorem am_mt212 : am_mtP am_m212 := ⟨am_mi212.2.2.1, by decide +kernel, am_rowBok (fun h => by cases h) am_pk212⟩
theorem am_pk213 : am_P213.all (am_rowB 9 false (some .int) prog_1_method_11_code) = true := by decide +kernel
theorem am_mt213 : am_mtP am_m213 := ⟨am_mi213.2.2.1, by decide +kernel, am_rowBok (fun h => by cases h) am_pk213⟩
theorem am_pk214 : am_P214.all (am_rowB 9 false (some .int) prog_1_method_12_code) = true := by decide +kernel
theorem am_mt214 : am_mtP am_m214 := ⟨am_mi214.2.2.1, by decide +kernel, am_rowBok (fun h => by cases h) am_pk214⟩
theorem am_pk215 : am_P215.all (am_rowB 9 false (some .int) prog_1_method_13_code) = true := by decide +kernel
theorem am_mt215 : am_mtP am_m215 := ⟨am_mi215.2.2.1, by decide +kernel, am_rowBok (fun h => by cases h) am_pk215⟩
theorem am_pk216 : am_P216.all (am_rowB 9 false (some .int) prog_1_method_14_code) = true := by decide +kernel
theorem am_mt216 : am_mtP am_m216 := ⟨am_mi216.2.2.1, by decide +kernel, am_rowBok (fun h => by cases h) am_pk216⟩
theorem am_pk217 : am_P217.all (am_rowB 9 false (some .int) prog_1_method_15_code) = true := by decide +kernel
theorem am_mt217 : am_mtP am_m217 := ⟨am_mi217.2.2.1, by decide +kernel, am_rowBok (fun h => by cases h) am_pk217⟩
theorem am_pk218 : am_P218.all (am_rowB 9 false (some .int) prog_1_method_16_code) = true := by decide +kernel
theorem am_mt218 : am_mtP am_m218 := ⟨am_mi218.2.2.1, by decide +kernel, am_rowBok (fun h => by cases h) am_pk218⟩
theorem am_pk219 : am_P219.all (am_rowB 9 false (some .int) prog_1_method_17_code) = true := by decide +kernel
theorem am_mt219 : am_mtP am_m219 := ⟨am_mi219.2.2.1, by decide +kernel, am_rowBok (fun h => by cases h) am_pk219⟩
theorem am_pk220 : am_P220.all (am_rowB 9 false (some .int) prog_1_method_18_code) = true := by decide +kernel
theorem am_mt220 : am_mtP am_m220 := ⟨am_mi220.2.2.1, by decide +kernel, am_rowBok (fun h => by cases h) am_pk220⟩
theorem am_pk221 : am_P221.all (am_rowB 9 false (some .int) prog_1_method_19_code) = true := by decide +kernel
theorem am_mt221 : am_mtP am_m221 := ⟨am_mi221.2.2.1, by decide +kernel, am_rowBok (fun h => by cases h) am_pk221⟩
theorem am_pk222 : am_P222.all (am_rowB 9 false (some .boolean) prog_1_method_20_code) = true := by decide +kernel
theorem am_mt222 : am_mtP am_m222 := ⟨am_mi222.2.2.1, by decide +kernel, am_rowBok (fun h => by cases h) am_pk222⟩
theorem am_pk223 : am_P223.all (am_rowB 9 false (some .int) prog_1_method_21_code) = true := by decide +kernel
theorem am_mt223 : am_mtP am_m223 := ⟨am_mi223.2.2.1, by decide +kernel, am_rowBok (fun h => by cases h) am_pk223⟩
theorem am_pk224 : am_P224.all (am_rowB 9 false (some .int) prog_1_method_22_code) = true := by decide +kernel
theorem am_mt224 : am_mtP am_m224 := ⟨am_mi224.2.2.1, by decide +kernel, am_rowBok (fun h => by cases h) am_pk224⟩
theorem am_pk225 : am_P225.all (am_rowB 9 false (some .int) prog_1_method_23_code) = true := by decide +kernel
theorem am_mt225 : am_mtP am_m225 := ⟨am_mi225.2.2.1, by decide +kernel, am_rowBok (fun h => by cases h) am_pk225⟩
theorem am_pk226 : am_P226.all (am_rowB 9 false (some .int) prog_1_method_24_code) = true := by decide +kernel
theorem am_mt226 : am_mtP am_m226 := ⟨am_mi226.2.2.1, by decide +kernel, am_rowBok (fun h => by cases h) am_pk226⟩
theorem am_pk227 : am_P227.all (am_rowB 9 false (some .int) prog_1_method_25_code) = true := by decide +kernel
theorem am_mt227 : am_mtP am_m227 := ⟨am_mi227.2.2.1, by decide +kernel, am_rowBok (fun h => by cases h) am_pk227⟩
theorem am_pk228 : am_P228.all (am_rowB 9 false (some .int) prog_1_method_26_code) = true := by decide +kernel
theorem am_mt228 : am_mtP am_m228 := ⟨am_mi228.2.2.1, by decide +kernel, am_rowBok (fun h => by cases h) am_pk228⟩
theorem am_pk229 : am_P229.all (am_rowB 9 false (some .int) prog_1_method_27_code) = true := by decide +kernel
theorem am_mt229 : am_mtP am_m229 := ⟨am_mi229.2.2.1, by decide +kernel, am_rowBok (fun h => by cases h) am_pk229⟩
theorem am_pk230 : am_P230.all (am_rowB 9 false (some .int) prog_1_method_28_code) = true := by decide +kernel
theorem am_mt230 : am_mtP am_m230 := ⟨am_mi230.2.2.1, by decide +kernel, am_rowBok (fun h => by cases h) am_pk230⟩
theorem am_pk231 : am_P231.all (am_rowB 9 false (some .int) prog_1_method_29_code) = true := by decide +kernel
theorem am_mt231 : am_mtP am_m231 := ⟨am_mi231.2.2.1, by decide +kernel, am_rowBok (fun h => by cases h) am_pk231⟩
theorem am_pk232 : am_P232.all (am_rowB 9 false (some .long) prog_1_method_30_code) = true := by decide +kernel
theorem am_mt232 : am_mtP am_m232 := ⟨am_mi232.2.2.1, by decide +kernel, am_rowBok (fun h => by cases h) am_pk232⟩
theorem am_pk233 : am_P233.all (am_rowB 9 false (some .long) prog_1_method_31_code) = true := by decide +kernel
theorem am_mt233 : am_mtP am_m233 := ⟨am_mi233.2.2.1, by decide +kernel, am_rowBok (fun h => by cases h) am_pk233⟩
theorem am_pk234 : am_P234.all (am_rowB 9 false (some .int) prog_1_method_32_code) = true := by decide +kernel
theorem am_mt234 : am_mtP am_m234 := ⟨am_mi234.2.2.1, by decide +kernel, am_rowBok (fun h => by cases h) am_pk234⟩
theorem am_pk235 : am_P235.all (am_rowB 9 false (some .int) prog_1_method_33_code) = true := by decide +kernel
theorem am_mt235 : am_mtP am_m235 := ⟨am_mi235.2.2.1, by decide +kernel, am_rowBok (fun h => by cases h) am_pk235⟩
theorem am_pk236 : am_P236.all (am_rowB 9 false (some .int) prog_1_method_34_code) = true := by decide +kernel
theorem am_mt236 : am_mtP am_m236 := ⟨am_mi236.2.2.1, by decide +kernel, am_rowBok (fun h => by cases h) am_pk236⟩
theorem am_pk237 : am_P237.all (am_rowB 9 false (some .int) prog_1_method_35_code) = true := by decide +kernel
theorem am_mt237 : am_mtP am_m237 := ⟨am_mi237.2.2.1, by decide +kernel, am_rowBok (fun h => by cases h) am_pk237⟩
theorem am_pk238 : am_P238.all (am_rowB 9 false (some .int) prog_1_method_36_code) = true := by decide +kernel
theorem am_mt238 : am_mtP am_m238 := ⟨am_mi238.2.2.1, by decide +kernel, am_rowBok (fun h => by cases h) am_pk238⟩
theorem am_pk239 : am_P239.all (am_rowB 9 false (some .int) prog_1_method_37_code) = true := by decide +kernel
theorem am_mt239 : am_mtP am_m239 := ⟨am_mi239.2.2.1, by decide +kernel, am_rowBok (fun h => by cases h) am_pk239⟩
theorem am_pk240 : am_P240.all (am_rowB 9 false (some .int) prog_1_method_38_code) = true := by decide +kernel
theorem am_mt240 : am_mtP am_m240 := ⟨am_mi240.2.2.1, by decide +kernel, am_rowBok (fun h => by cases h) am_pk240⟩
theorem am_pk241 : am_P241.all (am_rowB 9 false (some .int) prog_1_method_39_code) = true := by decide +kernel
theorem am_mt241 : am_mtP am_m241 := ⟨am_mi241.2.2.1, by decide +kernel, am_rowBok (fun h => by cases h) am_pk241⟩
theorem am_pk242 : am_P242.all (am_rowB 9 false (some .int) prog_1_method_40_code) = true := by decide +kernel
theorem am_mt242 : am_mtP am_m242 := ⟨am_mi242.2.2.1, by decide +kernel, am_rowBok (fun h => by cases h) am_pk242⟩
theorem am_pk243 : am_P243.all (am_rowB 9 false (some .int) prog_1_method_41_code) = true := by decide +kernel
theorem am_mt243 : am_mtP am_m243 := ⟨am_mi243.2.2.1, by decide +kernel, am_rowBok (fun h => by cases h) am_pk243⟩
theorem am_pk244 : am_P244.all (am_rowB 9 false (some .boolean) prog_1_method_42_code) = true := by decide +kernel
theorem am_mt244 : am_mtP am_m244 := ⟨am_mi244.2.2.1, by decide +kernel, am_rowBok (fun h => by cases h) am_pk244⟩
theorem am_pk245 : am_P245.all (am_rowB 9 false (some .int) prog_1_method_43_code) = true := by decide +kernel
theorem am_mt245 : am_mtP am_m245 := ⟨am_mi245.2.2.1, by decide +kernel, am_rowBok (fun h => by cases h) am_pk245⟩
theorem am_pk246 : am_P246.all (am_rowB 9 false (some .int) prog_1_method_44_code) = true := by decide +kernel
theorem am_mt246 : am_mtP am_m246 := ⟨am_mi246.2.2.1, by decide +kernel, am_rowBok (fun h => by cases h) am_pk246⟩
theorem am_pk247 : am_P247.all (am_rowB 9 false (some .int) prog_1_method_45_code) = true := by decide +kernel
theorem am_mt247 : am_mtP am_m247 := ⟨am_mi247.2.2.1, by decide +kernel, am_rowBok (fun h => by cases h) am_pk247⟩
theorem am_pk248 : am_P248.all (am_rowB 9 false (some .long) prog_1_method_46_code) = true := by decide +kernel
theorem am_mt248 : am_mtP am_m248 := ⟨am_mi248.2.2.1, by decide +kernel, am_rowBok (fun h => by cases h) am_pk248⟩
theorem am_pk249 : am_P249.all (am_rowB 9 false (some .int) prog_1_method_47_code) = true := by decide +kernel
theorem am_mt249 : am_mtP am_m249 := ⟨am_mi249.2.2.1, by decide +kernel, am_rowBok (fun h => by cases h) am_pk249⟩
theorem am_pk250 : am_P250.all (am_rowB 9 false (some .boolean) prog_1_method_48_code) = true := by decide +kernel
theorem am_mt250 : am_mtP am_m250 := ⟨am_mi250.2.2.1, by decide +kernel, am_rowBok (fun h => by cases h) am_pk250⟩
theorem am_pk251 : am_P251.all (am_rowB 9 false (some .boolean) prog_1_method_49_code) = true := by decide +kernel
theorem am_mt251 : am_mtP am_m251 := ⟨am_mi251.2.2.1, by decide +kernel, am_rowBok (fun h => by cases h) am_pk251⟩
theorem am_pk252 : am_P252.all (am_rowB 9 false (some .int) prog_1_method_50_code) = true := by decide +kernel
theorem am_mt252 : am_mtP am_m252 := ⟨am_mi252.2.2.1, by decide +kernel, am_rowBok (fun h => by cases h) am_pk252⟩
theorem am_pk253 : am_P253.all (am_rowB 9 false (some .boolean) prog_1_method_51_code) = true := by decide +kernel
theorem am_mt253 : am_mtP am_m253 := ⟨am_mi253.2.2.1, by decide +kernel, am_rowBok (fun h => by cases h) am_pk253⟩
theorem am_pk254 : am_P254.all (am_rowB 9 false (some .long) prog_1_method_52_code) = true := by decide +kernel
theorem am_mt254 : am_mtP am_m254 := ⟨am_mi254.2.2.1, by decide +kernel, am_rowBok (fun h => by cases h) am_pk254⟩
set_option maxRecDepth 100000 in
theorem am_mtAll : ∀ mt ∈ am_ML, am_mtP mt := by
  unfold am_ML
  refine List.forall_mem_cons.mpr ⟨am_mt0, ?_⟩
  refine List.forall_mem_cons.mpr ⟨am_mt1, ?_⟩
  refine List.forall_mem_cons.mpr ⟨am_mt2, ?_⟩
  refine List.forall_mem_cons.mpr ⟨am_mt3, ?_⟩
  refine List.forall_mem_cons.mpr ⟨am_mt4, ?_⟩
  refine List.forall_mem_cons.mpr ⟨am_mt5, ?_⟩
  refine List.forall_mem_cons.mpr ⟨am_mt6, ?_⟩
  refine List.forall_mem_cons.mpr ⟨am_mt7, ?_⟩
  refine List.forall_mem_cons.mpr ⟨am_mt8, ?_⟩
  refine List.forall_mem_cons.mpr ⟨am_mt9, ?_⟩
  refine List.forall_mem_cons.mpr ⟨am_mt10, ?_⟩
  refine List.forall_mem_cons.mpr ⟨am_mt11, ?_⟩
  refine List.forall_mem_cons.mpr ⟨am_mt12, ?_⟩
  refine List.forall_mem_cons.mpr ⟨am_mt13, ?_⟩
  refine List.forall_mem_cons.mpr ⟨am_mt14, ?_⟩
  refine List.forall_mem_cons.mpr ⟨am_mt15, ?_⟩
  refine List.forall_mem_cons.mpr ⟨am_mt16, ?_⟩
  refine List.forall_mem_cons.mpr ⟨am_mt17, ?_⟩
  refine List.forall_mem_cons.mpr ⟨am_mt18, ?_⟩
  refine List.forall_mem_cons.mpr ⟨am_mt19, ?_⟩
  refine List.forall_mem_cons.mpr ⟨am_mt20, ?_⟩
  refine List.forall_mem_cons.mpr ⟨am_mt21, ?_⟩
  refine List.forall_mem_cons.mpr ⟨am_mt22, ?_⟩
  refine List.forall_mem_cons.mpr ⟨am_mt23, ?_⟩
  refine List.forall_mem_cons.mpr ⟨am_mt24, ?_⟩
  refine List.forall_mem_cons.mpr ⟨am_mt25, ?_⟩
  refine List.forall_mem_cons.mpr ⟨am_mt26, ?_⟩
  refine List.forall_mem_cons.mpr ⟨am_mt27, ?_⟩
  refine List.forall_mem_cons.mpr ⟨am_mt28, ?_⟩
  refine List.forall_mem_cons.mpr ⟨am_mt29, ?_⟩
  refine List.forall_mem_cons.mpr ⟨am_mt30, ?_⟩
  refine List.forall_mem_cons.mpr ⟨am_mt31, ?_⟩
  refine List.forall_mem_cons.mpr ⟨am_mt32, ?_⟩
  refine List.forall_mem_cons.mpr ⟨am_mt33, ?_⟩
  refine List.forall_mem_cons.mpr ⟨am_mt34, ?_⟩
  refine List.forall_mem_cons.mpr ⟨am_mt35, ?_⟩
  refine List.forall_mem_cons.mpr ⟨am_mt36, ?_⟩
  refine List.forall_mem_cons.mpr ⟨am_mt37, ?_⟩
  refine List.forall_mem_cons.mpr ⟨am_mt38, ?_⟩
  refine List.forall_mem_cons.mpr ⟨am_mt39, ?_⟩
  refine List.forall_mem_cons.mpr ⟨am_mt40, ?_⟩
  refine List.forall_mem_cons.mpr ⟨am_mt41, ?_⟩
  refine List.forall_mem_cons.mpr ⟨am_mt42, ?_⟩
  refine List.forall_mem_cons.mpr ⟨am_mt43, ?_⟩
  refine List.forall_mem_cons.mpr ⟨am_mt44, ?_⟩
  refine List.forall_mem_cons.mpr ⟨am_mt45, ?_⟩
  refine List.forall_mem_cons.mpr ⟨am_mt46, ?_⟩
  refine List.forall_mem_cons.mpr ⟨am_mt47, ?_⟩
  refine List.forall_mem_cons.mpr ⟨am_mt48, ?_⟩
  refine List.forall_mem_cons.mpr ⟨am_mt49, ?_⟩
  refine List.forall_mem_cons.mpr ⟨am_mt50, ?_⟩
  refine List.forall_mem_cons.mpr ⟨am_mt51, ?_⟩
  refine List.forall_mem_cons.mpr ⟨am_mt52, ?_⟩
  refine List.forall_mem_cons.mpr ⟨am_mt53, ?_⟩
  refine List.forall_mem_cons.mpr ⟨am_mt54, ?_⟩
  refine List.forall_mem_cons.mpr ⟨am_mt55, ?_⟩
  refine List.forall_mem_cons.mpr ⟨am_mt56, ?_⟩
  refine List.forall_mem_cons.mpr ⟨am_mt57, ?_⟩
  refine List.forall_mem_cons.mpr ⟨am_mt58, ?_⟩
  refine List.forall_mem_cons.mpr ⟨am_mt59, ?_⟩
  refine List.forall_mem_cons.mpr ⟨am_mt60, ?_⟩
  refine List.forall_mem_cons.mpr ⟨am_mt61, ?_⟩
  refine List.forall_mem_cons.mpr ⟨am_mt62, ?_⟩
  refine List.forall_mem_cons.mpr ⟨am_mt63, ?_⟩
  refine List.forall_mem_cons.mpr ⟨am_mt64, ?_⟩
  refine List.forall_mem_cons.mpr ⟨am_mt65, ?_⟩
  refine List.forall_mem_cons.mpr ⟨am_mt66, ?_⟩
  refine List.forall_mem_cons.mpr ⟨am_mt67, ?_⟩
  refine List.forall_mem_cons.mpr ⟨am_mt68, ?_⟩
  refine List.forall_mem_cons.mpr ⟨am_mt69, ?_⟩
  refine List.forall_mem_cons.mpr ⟨am_mt70, ?_⟩
  refine List.forall_mem_cons.mpr ⟨am_mt71, ?_⟩
  refine List.forall_mem_cons.mpr ⟨am_mt72, ?_⟩
  refine List.forall_mem_cons.mpr ⟨am_mt73, ?_⟩
  refine List.forall_mem_cons.mpr ⟨am_mt74, ?_⟩
  refine List.forall_mem_cons.mpr ⟨am_mt75, ?_⟩
  refine List.forall_mem_cons.mpr ⟨am_mt76, ?_⟩
  refine List.forall_mem_cons.mpr ⟨am_mt77, ?_⟩
  refine List.forall_mem_cons.mpr ⟨am_mt78, ?_⟩
  refine List.forall_mem_cons.mpr ⟨am_mt79, ?_⟩
  refine List.forall_mem_cons.mpr ⟨am_mt80, ?_⟩
  refine List.forall_mem_cons.mpr ⟨am_mt81, ?_⟩
  refine List.forall_mem_cons.mpr ⟨am_mt82, ?_⟩
  refine List.forall_mem_cons.mpr ⟨am_mt83, ?_⟩
  refine List.forall_mem_cons.mpr ⟨am_mt84, ?_⟩
  refine List.forall_mem_cons.mpr ⟨am_mt85, ?_⟩
  refine List.forall_mem_cons.mpr ⟨am_mt86, ?_⟩
  refine List.forall_mem_cons.mpr ⟨am_mt87, ?_⟩
  refine List.forall_mem_cons.mpr ⟨am_mt88, ?_⟩
  refine List.forall_mem_cons.mpr ⟨am_mt89, ?_⟩
  refine List.forall_mem_cons.mpr ⟨am_mt90, ?_⟩
  refine List.forall_mem_cons.mpr ⟨am_mt91, ?_⟩
  refine List.forall_mem_cons.mpr ⟨am_mt92, ?_⟩
  refine List.forall_mem_cons.mpr ⟨am_mt93, ?_⟩
  refine List.forall_mem_cons.mpr ⟨am_mt94, ?_⟩
  refine List.forall_mem_cons.mpr ⟨am_mt95, ?_⟩
  refine List.forall_mem_cons.mpr ⟨am_mt96, ?_⟩
  refine List.forall_mem_cons.mpr ⟨am_mt97, ?_⟩
  refine List.forall_mem_cons.mpr ⟨am_mt98, ?_⟩
  refine List.forall_mem_cons.mpr ⟨am_mt99, ?_⟩
  refine List.forall_mem_cons.mpr ⟨am_mt100, ?_⟩
  refine List.forall_mem_cons.mpr ⟨am_mt101, ?_⟩
  refine List.forall_mem_cons.mpr ⟨am_mt102, ?_⟩
  refine List.forall_mem_cons.mpr ⟨am_mt103, ?_⟩
  refine List.forall_mem_cons.mpr ⟨am_mt104, ?_⟩
  refine List.forall_mem_cons.mpr ⟨am_mt105, ?_⟩
  refine List.forall_mem_cons.mpr ⟨am_mt106, ?_⟩
  refine List.forall_mem_cons.mpr ⟨am_mt107, ?_⟩
  refine List.forall_mem_cons.mpr ⟨am_mt108, ?_⟩
  refine List.forall_mem_cons.mpr ⟨am_mt109, ?_⟩
  refine List.forall_mem_cons.mpr ⟨am_mt110, ?_⟩
  refine List.forall_mem_cons.mpr ⟨am_mt111, ?_⟩
  refine List.forall_mem_cons.mpr ⟨am_mt112, ?_⟩
  refine List.forall_mem_cons.mpr ⟨am_mt113, ?_⟩
  refine List.forall_mem_cons.mpr ⟨am_mt114, ?_⟩
  refine List.forall_mem_cons.mpr ⟨am_mt115, ?_⟩
  refine List.forall_mem_cons.mpr ⟨am_mt116, ?_⟩
  refine List.forall_mem_cons.mpr ⟨am_mt117, ?_⟩
  refine List.forall_mem_cons.mpr ⟨am_mt118, ?_⟩
  refine List.forall_mem_cons.mpr ⟨am_mt119, ?_⟩
  refine List.forall_mem_cons.mpr ⟨am_mt120, ?_⟩
  refine List.forall_mem_cons.mpr ⟨am_mt121, ?_⟩
  refine List.forall_mem_cons.mpr ⟨am_mt122, ?_⟩
  refine List.forall_mem_cons.mpr ⟨am_mt123, ?_⟩
  refine List.forall_mem_cons.mpr ⟨am_mt124, ?_⟩
  refine List.forall_mem_cons.mpr ⟨am_mt125, ?_⟩
  refine List.forall_mem_cons.mpr ⟨am_mt126, ?_⟩
  refine List.forall_mem_cons.mpr ⟨am_mt127, ?_⟩
  refine List.forall_mem_cons.mpr ⟨am_mt128, ?_⟩
  refine List.forall_mem_cons.mpr ⟨am_mt129, ?_⟩
  refine List.forall_mem_cons.mpr ⟨am_mt130, ?_⟩
  refine List.forall_mem_cons.mpr ⟨am_mt131, ?_⟩
  refine List.forall_mem_cons.mpr ⟨am_mt132, ?_⟩
  refine List.forall_mem_cons.mpr ⟨am_mt133, ?_⟩
  refine List.forall_mem_cons.mpr ⟨am_mt134, ?_⟩
  refine List.forall_mem_cons.mpr ⟨am_mt135, ?_⟩
  refine List.forall_mem_cons.mpr ⟨am_mt136, ?_⟩
  refine List.forall_mem_cons.mpr ⟨am_mt137, ?_⟩
  refine List.forall_mem_cons.mpr ⟨am_mt138, ?_⟩
  refine List.forall_mem_cons.mpr ⟨am_mt139, ?_⟩
  refine List.forall_mem_cons.mpr ⟨am_mt140, ?_⟩
  refine List.forall_mem_cons.mpr ⟨am_mt141, ?_⟩
  refine List.forall_mem_cons.mpr ⟨am_mt142, ?_⟩
  refine List.forall_mem_cons.mpr ⟨am_mt143, ?_⟩
  refine List.forall_mem_cons.mpr ⟨am_mt144, ?_⟩
  refine List.forall_mem_cons.mpr ⟨am_mt145, ?_⟩
  refine List.forall_mem_cons.mpr ⟨am_mt146, ?_⟩
  refine List.forall_mem_cons.mpr ⟨am_mt147, ?_⟩
  refine List.forall_mem_cons.mpr ⟨am_mt148, ?_⟩
  refine List.forall_mem_cons.mpr ⟨am_mt149, ?_⟩
  refine List.forall_mem_cons.mpr ⟨am_mt150, ?_⟩
  refine List.forall_mem_cons.mpr ⟨am_mt151, ?_⟩
  refine List.forall_mem_cons.mpr ⟨am_mt152, ?_⟩
  refine List.forall_mem_cons.mpr ⟨am_mt153, ?_⟩
  refine List.forall_mem_cons.mpr ⟨am_mt154, ?_⟩
  refine List.forall_mem_cons.mpr ⟨am_mt155, ?_⟩
  refine List.forall_mem_cons.mpr ⟨am_mt156, ?_⟩
  refine List.forall_mem_cons.mpr ⟨am_mt157, ?_⟩
  refine List.forall_mem_cons.mpr ⟨am_mt158, ?_⟩
  refine List.forall_mem_cons.mpr ⟨am_mt159, ?_⟩
  refine List.forall_mem_cons.mpr ⟨am_mt160, ?_⟩
  refine List.forall_mem_cons.mpr ⟨am_mt161, ?_⟩
  refine List.forall_mem_cons.mpr ⟨am_mt162, ?_⟩
  refine List.forall_mem_cons.mpr ⟨am_mt163, ?_⟩
  refine List.forall_mem_cons.mpr ⟨am_mt164, ?_⟩
  refine List.forall_mem_cons.mpr ⟨am_mt165, ?_⟩
  refine List.forall_mem_cons.mpr ⟨am_mt166, ?_⟩
  refine List.forall_mem_cons.mpr ⟨am_mt167, ?_⟩
  refine List.forall_mem_cons.mpr ⟨am_mt168, ?_⟩
  refine List.forall_mem_cons.mpr ⟨am_mt169, ?_⟩
  refine List.forall_mem_cons.mpr ⟨am_mt170, ?_⟩
  refine List.forall_mem_cons.mpr ⟨am_mt171, ?_⟩
  refine List.forall_mem_cons.mpr ⟨am_mt172, ?_⟩
  refine List.forall_mem_cons.mpr ⟨am_mt173, ?_⟩
  refine List.forall_mem_cons.mpr ⟨am_mt174, ?_⟩
  refine List.forall_mem_cons.mpr ⟨am_mt175, ?_⟩
  refine List.forall_mem_cons.mpr ⟨am_mt176, ?_⟩
  refine List.forall_mem_cons.mpr ⟨am_mt177, ?_⟩
  refine List.forall_mem_cons.mpr ⟨am_mt178, ?_⟩
  refine List.forall_mem_cons.mpr ⟨am_mt179, ?_⟩
  refine List.forall_mem_cons.mpr ⟨am_mt180, ?_⟩
  refine List.forall_mem_cons.mpr ⟨am_mt181, ?_⟩
  refine List.forall_mem_cons.mpr ⟨am_mt182, ?_⟩
  refine List.forall_mem_cons.mpr ⟨am_mt183, ?_⟩
  refine List.forall_mem_cons.mpr ⟨am_mt184, ?_⟩
  refine List.forall_mem_cons.mpr ⟨am_mt185, ?_⟩
  refine List.forall_mem_cons.mpr ⟨am_mt186, ?_⟩
  refine List.forall_mem_cons.mpr ⟨am_mt187, ?_⟩
  refine List.forall_mem_cons.mpr ⟨am_mt188, ?_⟩
  refine List.forall_mem_cons.mpr ⟨am_mt189, ?_⟩
  refine List.forall_mem_cons.mpr ⟨am_mt190, ?_⟩
  refine List.forall_mem_cons.mpr ⟨am_mt191, ?_⟩
  refine List.forall_mem_cons.mpr ⟨am_mt192, ?_⟩
  refine List.forall_mem_cons.mpr ⟨am_mt193, ?_⟩
  refine List.forall_mem_cons.mpr ⟨am_mt194, ?_⟩
  refine List.forall_mem_cons.mpr ⟨am_mt195, ?_⟩
  refine List.forall_mem_cons.mpr ⟨am_mt196, ?_⟩
  refine List.forall_mem_cons.mpr ⟨am_mt197, ?_⟩
  refine List.forall_mem_cons.mpr ⟨am_mt198, ?_⟩
  refine List.forall_mem_cons.mpr ⟨am_mt199, ?_⟩
  refine List.forall_mem_cons.mpr ⟨am_mt200, ?_⟩
  refine List.forall_mem_cons.mpr ⟨am_mt201, ?_⟩
  refine List.forall_mem_cons.mpr ⟨am_mt202, ?_⟩
  refine List.forall_mem_cons.mpr ⟨am_mt203, ?_⟩
  refine List.forall_mem_cons.mpr ⟨am_mt204, ?_⟩
  refine List.forall_mem_cons.mpr ⟨am_mt205, ?_⟩
  refine List.forall_mem_cons.mpr ⟨am_mt206, ?_⟩
  refine List.forall_mem_cons.mpr ⟨am_mt207, ?_⟩
  refine List.forall_mem_cons.mpr ⟨am_mt208, ?_⟩
  refine List.forall_mem_cons.mpr ⟨am_mt209, ?_⟩
  refine List.forall_mem_cons.mpr ⟨am_mt210, ?_⟩
  refine List.forall_mem_cons.mpr ⟨am_mt211, ?_⟩
  refine List.forall_mem_cons.mpr ⟨am_mt212, ?_⟩
  refine List.forall_mem_cons.mpr ⟨am_mt213, ?_⟩
  refine List.forall_mem_cons.mpr ⟨am_mt214, ?_⟩
  refine List.forall_mem_cons.mpr ⟨am_mt215, ?_⟩
  refine List.forall_mem_cons.mpr ⟨am_mt216, ?_⟩
  refine List.forall_mem_cons.mpr ⟨am_mt217, ?_⟩
  refine List.forall_mem_cons.mpr ⟨am_mt218, ?_⟩
  refine List.forall_mem_cons.mpr ⟨am_mt219, ?_⟩
  refine List.forall_mem_cons.mpr ⟨am_mt220, ?_⟩
  refine List.forall_mem_cons.mpr ⟨am_mt221, ?_⟩
  refine List.forall_mem_cons.mpr ⟨am_mt222, ?_⟩
  refine List.forall_mem_cons.mpr ⟨am_mt223, ?_⟩
  refine List.forall_mem_cons.mpr ⟨am_mt224, ?_⟩
  refine List.forall_mem_cons.mpr ⟨am_mt225, ?_⟩
  refine List.forall_mem_cons.mpr ⟨am_mt226, ?_⟩
  refine List.forall_mem_cons.mpr ⟨am_mt227, ?_⟩
  refine List.forall_mem_cons.mpr ⟨am_mt228, ?_⟩
  refine List.forall_mem_cons.mpr ⟨am_mt229, ?_⟩
  refine List.forall_mem_cons.mpr ⟨am_mt230, ?_⟩
  refine List.forall_mem_cons.mpr ⟨am_mt231, ?_⟩
  refine List.forall_mem_cons.mpr ⟨am_mt232, ?_⟩
  refine List.forall_mem_cons.mpr ⟨am_mt233, ?_⟩
  refine List.forall_mem_cons.mpr ⟨am_mt234, ?_⟩
  refine List.forall_mem_cons.mpr ⟨am_mt235, ?_⟩
  refine List.forall_mem_cons.mpr ⟨am_mt236, ?_⟩
  refine List.forall_mem_cons.mpr ⟨am_mt237, ?_⟩
  refine List.forall_mem_cons.mpr ⟨am_mt238, ?_⟩
  refine List.forall_mem_cons.mpr ⟨am_mt239, ?_⟩
  refine List.forall_mem_cons.mpr ⟨am_mt240, ?_⟩
  refine List.forall_mem_cons.mpr ⟨am_mt241, ?_⟩
  refine List.forall_mem_cons.mpr ⟨am_mt242, ?_⟩
  refine List.forall_mem_cons.mpr ⟨am_mt243, ?_⟩
  refine List.forall_mem_cons.mpr ⟨am_mt244, ?_⟩
  refine List.forall_mem_cons.mpr ⟨am_mt245, ?_⟩
  refine List.forall_mem_cons.mpr ⟨am_mt246, ?_⟩
  refine List.forall_mem_cons.mpr ⟨am_mt247, ?_⟩
  refine List.forall_mem_cons.mpr ⟨am_mt248, ?_⟩
  refine List.forall_mem_cons.mpr ⟨am_mt249, ?_⟩
  refine List.forall_mem_cons.mpr ⟨am_mt250, ?_⟩
  refine List.forall_mem_cons.mpr ⟨am_mt251, ?_⟩
  refine List.forall_mem_cons.mpr ⟨am_mt252, ?_⟩
  refine List.forall_mem_cons.mpr ⟨am_mt253, ?_⟩
  refine List.forall_mem_cons.mpr ⟨am_mt254, ?_⟩
  exact fun _ h => absurd h List.not_mem_nil
theorem am_hML : ∀ (y : Nat) (mt : am_Mt), am_ML[y]? = some mt → am_mtP mt := fun _ _ h => am_mtAll _ (List.mem_of_getElem? h)
